/-! laid by wip/p1/gen7.py -/
set_option maxRecDepth 1000000 in
theorem q_168 : T_168 = (pT M_168).map (mkM []) := rfl
theorem o_168 {θ : Nat → Int32} {L : Nat} : EOK θ L 168 E_168 := EOK.of (ml := []) rfl rfl rfl rfl q_168 (by decide +kernel) (fun n Q q hq => by cases hq)
set_option maxRecDepth 1000000 in
theorem q_169 : T_169 = (pT M_169).map (mkM []) := rfl
theorem o_169 {θ : Nat → Int32} {L : Nat} : EOK θ L 169 E_169 := EOK.of (ml := []) rfl rfl rfl rfl q_169 (by decide +kernel) (fun n Q q hq => by cases hq)
set_option maxRecDepth 1000000 in
theorem q_170 : T_170 = (pT M_170).map (mkM []) := rfl
theorem o_170 {θ : Nat → Int32} {L : Nat} : EOK θ L 170 E_170 := EOK.of (ml := []) rfl rfl rfl rfl q_170 (by decide +kernel) (fun n Q q hq => by cases hq)
set_option maxRecDepth 1000000 in
theorem q_171 : T_171 = (pT M_171).map (mkM []) := rfl
theorem o_171 {θ : Nat → Int32} {L : Nat} : EOK θ L 171 E_171 := EOK.of (ml := []) rfl rfl rfl rfl q_171 (by decide +kernel) (fun n Q q hq => by cases hq)
set_option maxRecDepth 1000000 in
theorem q_172 : T_172 = (pT M_172).map (mkM []) := rfl
theorem o_172 {θ : Nat → Int32} {L : Nat} : EOK θ L 172 E_172 := EOK.of (ml := []) rfl rfl rfl rfl q_172 (by decide +kernel) (fun n Q q hq => by cases hq)
set_option maxRecDepth 1000000 in
theorem q_173 : T_173 = (pT M_173).map (mkM []) := rfl
theorem o_173 {θ : Nat → Int32} {L : Nat} : EOK θ L 173 E_173 := EOK.of (ml := []) rfl rfl rfl rfl q_173 (by decide +kernel) (fun n Q q hq => by cases hq)
set_option maxRecDepth 1000000 in
theorem q_174 : T_174 = (pT M_174).map (mkM []) := rfl
theorem o_174 {θ : Nat → Int32} {L : Nat} : EOK θ L 174 E_174 := EOK.of (ml := []) rfl rfl rfl rfl q_174 (by decide +kernel) (fun n Q q hq => by cases hq)
set_option maxRecDepth 1000000 in
theorem q_175 : T_175 = (pT M_175).map (mkM []) := rfl
theorem o_175 {θ : Nat → Int32} {L : Nat} : EOK θ L 175 E_175 := EOK.of (ml := []) rfl rfl rfl rfl q_175 (by decide +kernel) (fun n Q q hq => by cases hq)
set_option maxRecDepth 1000000 in
theorem q_176 : T_176 = (pT M_176).map (mkM []) := rfl
theorem o_176 {θ : Nat → Int32} {L : Nat} : EOK θ L 176 E_176 := EOK.of (ml := []) rfl rfl rfl rfl q_176 (by decide +kernel) (fun n Q q hq => by cases hq)
set_option maxRecDepth 1000000 in
theorem q_177 : T_177 = (pT M_177).map (mkM []) := rfl
theorem o_177 {θ : Nat → Int32} {L : Nat} : EOK θ L 177 E_177 := EOK.of (ml := []) rfl rfl rfl rfl q_177 (by decide +kernel) (fun n Q q hq => by cases hq)
set_option maxRecDepth 1000000 in
theorem q_178 : T_178 = (pT M_178).map (mkM []) := rfl
theorem o_178 {θ : Nat → Int32} {L : Nat} : EOK θ L 178 E_178 := EOK.of (ml := []) rfl rfl rfl rfl q_178 (by decide +kernel) (fun n Q q hq => by cases hq)
set_option maxRecDepth 1000000 in
theorem q_179 : T_179 = (pT M_179).map (mkM []) := rfl
theorem o_179 {θ : Nat → Int32} {L : Nat} : EOK θ L 179 E_179 := EOK.of (ml := []) rfl rfl rfl rfl q_179 (by decide +kernel) (fun n Q q hq => by cases hq)
set_option maxRecDepth 1000000 in
theorem q_182 : T_182 = (pT M_182).map (mkM []) := rfl
theorem o_182 {θ : Nat → Int32} {L : Nat} : EOK θ L 182 E_182 := EOK.of (ml := []) rfl rfl rfl rfl q_182 (by decide +kernel) (fun n Q q hq => by cases hq)
set_option maxRecDepth 1000000 in
theorem q_183 : T_183 = (pT M_183).map (mkM []) := rfl
theorem o_183 {θ : Nat → Int32} {L : Nat} : EOK θ L 183 E_183 := EOK.of (ml := []) rfl rfl rfl rfl q_183 (by decide +kernel) (fun n Q q hq => by cases hq)
set_option maxRecDepth 1000000 in
theorem q_184 : T_184 = (pT M_184).map (mkM []) := rfl
theorem o_184 {θ : Nat → Int32} {L : Nat} : EOK θ L 184 E_184 := EOK.of (ml := []) rfl rfl rfl rfl q_184 (by decide +kernel) (fun n Q q hq => by cases hq)
set_option maxRecDepth 1000000 in
theorem q_185 : T_185 = (pT M_185).map (mkM []) := rfl
theorem o_185 {θ : Nat → Int32} {L : Nat} : EOK θ L 185 E_185 := EOK.of (ml := []) rfl rfl rfl rfl q_185 (by decide +kernel) (fun n Q q hq => by cases hq)
set_option maxRecDepth 1000000 in
theorem q_187 : T_187 = (pT M_187).map (mkM []) := rfl
theorem o_187 {θ : Nat → Int32} {L : Nat} : EOK θ L 187 E_187 := EOK.of (ml := []) rfl rfl rfl rfl q_187 (by decide +kernel) (fun n Q q hq => by cases hq)
set_option maxRecDepth 1000000 in
theorem q_188 : T_188 = (pT M_188).map (mkM []) := rfl
theorem o_188 {θ : Nat → Int32} {L : Nat} : EOK θ L 188 E_188 := EOK.of (ml := []) rfl rfl rfl rfl q_188 (by decide +kernel) (fun n Q q hq => by cases hq)
set_option maxRecDepth 1000000 in
theorem q_189 : T_189 = (pT M_189).map (mkM []) := rfl
theorem o_189 {θ : Nat → Int32} {L : Nat} : EOK θ L 189 E_189 := EOK.of (ml := []) rfl rfl rfl rfl q_189 (by decide +kernel) (fun n Q q hq => by cases hq)
set_option maxRecDepth 1000000 in
theorem q_190 : T_190 = (pT M_190).map (mkM []) := rfl
theorem o_190 {θ : Nat → Int32} {L : Nat} : EOK θ L 190 E_190 := EOK.of (ml := []) rfl rfl rfl rfl q_190 (by decide +kernel) (fun n Q q hq => by cases hq)
set_option maxRecDepth 1000000 in
theorem q_191 : T_191 = (pT M_191).map (mkM []) := rfl
theorem o_191 {θ : Nat → Int32} {L : Nat} : EOK θ L 191 E_191 := EOK.of (ml := []) rfl rfl rfl rfl q_191 (by decide +kernel) (fun n Q q hq => by cases hq)
set_option maxRecDepth 1000000 in
theorem q_192 : T_192 = (pT M_192).map (mkM []) := rfl
theorem o_192 {θ : Nat → Int32} {L : Nat} : EOK θ L 192 E_192 := EOK.of (ml := []) rfl rfl rfl rfl q_192 (by decide +kernel) (fun n Q q hq => by cases hq)
set_option maxRecDepth 1000000 in
theorem q_193 : T_193 = (pT M_193).map (mkM []) := rfl
theorem o_193 {θ : Nat → Int32} {L : Nat} : EOK θ L 193 E_193 := EOK.of (ml := []) rfl rfl rfl rfl q_193 (by decide +kernel) (fun n Q q hq => by cases hq)
set_option maxRecDepth 1000000 in
theorem q_194 : T_194 = (pT M_194).map (mkM []) := rfl
theorem o_194 {θ : Nat → Int32} {L : Nat} : EOK θ L 194 E_194 := EOK.of (ml := []) rfl rfl rfl rfl q_194 (by decide +kernel) (fun n Q q hq => by cases hq)
set_option maxRecDepth 1000000 in
theorem q_195 : T_195 = (pT M_195).map (mkM []) := rfl
theorem o_195 {θ : Nat → Int32} {L : Nat} : EOK θ L 195 E_195 := EOK.of (ml := []) rfl rfl rfl rfl q_195 (by decide +kernel) (fun n Q q hq => by cases hq)
set_option maxRecDepth 1000000 in
theorem q_196 : T_196 = (pT M_196).map (mkM []) := rfl
theorem o_196 {θ : Nat → Int32} {L : Nat} : EOK θ L 196 E_196 := EOK.of (ml := []) rfl rfl rfl rfl q_196 (by decide +kernel) (fun n Q q hq => by cases hq)
set_option maxRecDepth 1000000 in
theorem q_197 : T_197 = (pT M_197).map (mkM []) := rfl
theorem o_197 {θ : Nat → Int32} {L : Nat} : EOK θ L 197 E_197 := EOK.of (ml := []) rfl rfl rfl rfl q_197 (by decide +kernel) (fun n Q q hq => by cases hq)
set_option maxRecDepth 1000000 in
theorem q_198 : T_198 = (pT M_198).map (mkM []) := rfl
theorem o_198 {θ : Nat → Int32} {L : Nat} : EOK θ L 198 E_198 := EOK.of (ml := []) rfl rfl rfl rfl q_198 (by decide +kernel) (fun n Q q hq => by cases hq)
set_option maxRecDepth 1000000 in
theorem q_200 : T_200 = (pT M_200).map (mkM []) := rfl
theorem o_200 {θ : Nat → Int32} {L : Nat} : EOK θ L 200 E_200 := EOK.of (ml := []) rfl rfl rfl rfl q_200 (by decide +kernel) (fun n Q q hq => by cases hq)
set_option maxRecDepth 1000000 in
theorem q_201 : T_201 = (pT M_201).map (mkM []) := rfl
theorem o_201 {θ : Nat → Int32} {L : Nat} : EOK θ L 201 E_201 := EOK.of (ml := []) rfl rfl rfl rfl q_201 (by decide +kernel) (fun n Q q hq => by cases hq)
set_option maxRecDepth 1000000 in
theorem q_202 : T_202 = (pT M_202).map (mkM []) := rfl
theorem o_202 {θ : Nat → Int32} {L : Nat} : EOK θ L 202 E_202 := EOK.of (ml := []) rfl rfl rfl rfl q_202 (by decide +kernel) (fun n Q q hq => by cases hq)
set_option maxRecDepth 1000000 in
theorem q_203 : T_203 = (pT M_203).map (mkM []) := rfl
theorem o_203 {θ : Nat → Int32} {L : Nat} : EOK θ L 203 E_203 := EOK.of (ml := []) rfl rfl rfl rfl q_203 (by decide +kernel) (fun n Q q hq => by cases hq)
set_option maxRecDepth 1000000 in
theorem q_206 : T_206 = (pT M_206).map (mkM []) := rfl
theorem o_206 {θ : Nat → Int32} {L : Nat} : EOK θ L 206 E_206 := EOK.of (ml := []) rfl rfl rfl rfl q_206 (by decide +kernel) (fun n Q q hq => by cases hq)
set_option maxRecDepth 1000000 in
theorem q_207 : T_207 = (pT M_207).map (mkM []) := rfl
theorem o_207 {θ : Nat → Int32} {L : Nat} : EOK θ L 207 E_207 := EOK.of (ml := []) rfl rfl rfl rfl q_207 (by decide +kernel) (fun n Q q hq => by cases hq)
set_option maxRecDepth 1000000 in
theorem q_208 : T_208 = (pT M_208).map (mkM []) := rfl
theorem o_208 {θ : Nat → Int32} {L : Nat} : EOK θ L 208 E_208 := EOK.of (ml := []) rfl rfl rfl rfl q_208 (by decide +kernel) (fun n Q q hq => by cases hq)
set_option maxRecDepth 1000000 in
theorem q_209 : T_209 = (pT M_209).map (mkM []) := rfl
theorem o_209 {θ : Nat → Int32} {L : Nat} : EOK θ L 209 E_209 := EOK.of (ml := []) rfl rfl rfl rfl q_209 (by decide +kernel) (fun n Q q hq => by cases hq)
set_option maxRecDepth 1000000 in
theorem q_210 : T_210 = (pT M_210).map (mkM []) := rfl
theorem o_210 {θ : Nat → Int32} {L : Nat} : EOK θ L 210 E_210 := EOK.of (ml := []) rfl rfl rfl rfl q_210 (by decide +kernel) (fun n Q q hq => by cases hq)
set_option maxRecDepth 1000000 in
theorem q_211 : T_211 = (pT M_211).map (mkM [(11, x_211_11)]) := rfl
theorem o_211 {θ : Nat → Int32} {L : Nat} : EOK θ L 211 E_211 := EOK.of (ml := [(11, x_211_11)]) rfl rfl rfl rfl q_211 (by decide +kernel) (fun n Q q hq => by
  simp only [List.mem_cons, List.not_mem_nil, or_false] at hq
  rcases hq with rfl
  · exact m_211_11)
set_option maxRecDepth 1000000 in
theorem q_213 : T_213 = (pT M_213).map (mkM []) := rfl
theorem o_213 {θ : Nat → Int32} {L : Nat} : EOK θ L 213 E_213 := EOK.of (ml := []) rfl rfl rfl rfl q_213 (by decide +kernel) (fun n Q q hq => by cases hq)
set_option maxRecDepth 1000000 in
theorem q_214 : T_214 = (pT M_214).map (mkM []) := rfl
theorem o_214 {θ : Nat → Int32} {L : Nat} : EOK θ L 214 E_214 := EOK.of (ml := []) rfl rfl rfl rfl q_214 (by decide +kernel) (fun n Q q hq => by cases hq)
set_option maxRecDepth 1000000 in
theorem q_215 : T_215 = (pT M_215).map (mkM [(31, x_215_31)]) := rfl
theorem o_215 {θ : Nat → Int32} {L : Nat} : EOK θ L 215 E_215 := EOK.of (ml := [(31, x_215_31)]) rfl rfl rfl rfl q_215 (by decide +kernel) (fun n Q q hq => by
  simp only [List.mem_cons, List.not_mem_nil, or_false] at hq
  rcases hq with rfl
  · exact m_215_31 (Ex.mono _ _))
set_option maxRecDepth 1000000 in
theorem q_218 : T_218 = (pT M_218).map (mkM []) := rfl
theorem o_218 {θ : Nat → Int32} {L : Nat} : EOK θ L 218 E_218 := EOK.of (ml := []) rfl rfl rfl rfl q_218 (by decide +kernel) (fun n Q q hq => by cases hq)
set_option maxRecDepth 1000000 in
theorem q_219 : T_219 = (pT M_219).map (mkM []) := rfl
theorem o_219 {θ : Nat → Int32} {L : Nat} : EOK θ L 219 E_219 := EOK.of (ml := []) rfl rfl rfl rfl q_219 (by decide +kernel) (fun n Q q hq => by cases hq)
set_option maxRecDepth 1000000 in
theorem q_220 : T_220 = (pT M_220).map (mkM []) := rfl
theorem o_220 {θ : Nat → Int32} {L : Nat} : EOK θ L 220 E_220 := EOK.of (ml := []) rfl rfl rfl rfl q_220 (by decide +kernel) (fun n Q q hq => by cases hq)
set_option maxRecDepth 1000000 in
theorem q_221 : T_221 = (pT M_221).map (mkM []) := rfl
theorem o_221 {θ : Nat → Int32} {L : Nat} : EOK θ L 221 E_221 := EOK.of (ml := []) rfl rfl rfl rfl q_221 (by decide +kernel) (fun n Q q hq => by cases hq)
set_option maxRecDepth 1000000 in
theorem q_222 : T_222 = (pT M_222).map (mkM []) := rfl
theorem o_222 {θ : Nat → Int32} {L : Nat} : EOK θ L 222 E_222 := EOK.of (ml := []) rfl rfl rfl rfl q_222 (by decide +kernel) (fun n Q q hq => by cases hq)
set_option maxRecDepth 1000000 in
theorem q_223 : T_223 = (pT M_223).map (mkM []) := rfl
theorem o_223 {θ : Nat → Int32} {L : Nat} : EOK θ L 223 E_223 := EOK.of (ml := []) rfl rfl rfl rfl q_223 (by decide +kernel) (fun n Q q hq => by cases hq)
set_option maxRecDepth 1000000 in
theorem q_224 : T_224 = (pT M_224).map (mkM []) := rfl
theorem o_224 {θ : Nat → Int32} {L : Nat} : EOK θ L 224 E_224 := EOK.of (ml := []) rfl rfl rfl rfl q_224 (by decide +kernel) (fun n Q q hq => by cases hq)
