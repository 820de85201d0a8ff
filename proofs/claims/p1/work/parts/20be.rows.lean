/-! laid by wip/p1/gen7.py -/
set_option maxRecDepth 1000000 in
theorem q_225 : T_225 = (pT M_225).map (mkM []) := rfl
theorem o_225 {θ : Nat → Int32} {L : Nat} : EOK θ L 225 E_225 := EOK.of (ml := []) rfl rfl rfl rfl q_225 (by decide +kernel) (fun n Q q hq => by cases hq)
set_option maxRecDepth 1000000 in
theorem q_226 : T_226 = (pT M_226).map (mkM []) := rfl
theorem o_226 {θ : Nat → Int32} {L : Nat} : EOK θ L 226 E_226 := EOK.of (ml := []) rfl rfl rfl rfl q_226 (by decide +kernel) (fun n Q q hq => by cases hq)
set_option maxRecDepth 1000000 in
theorem q_227 : T_227 = (pT M_227).map (mkM []) := rfl
theorem o_227 {θ : Nat → Int32} {L : Nat} : EOK θ L 227 E_227 := EOK.of (ml := []) rfl rfl rfl rfl q_227 (by decide +kernel) (fun n Q q hq => by cases hq)
set_option maxRecDepth 1000000 in
theorem q_228 : T_228 = (pT M_228).map (mkM []) := rfl
theorem o_228 {θ : Nat → Int32} {L : Nat} : EOK θ L 228 E_228 := EOK.of (ml := []) rfl rfl rfl rfl q_228 (by decide +kernel) (fun n Q q hq => by cases hq)
set_option maxRecDepth 1000000 in
theorem q_229 : T_229 = (pT M_229).map (mkM []) := rfl
theorem o_229 {θ : Nat → Int32} {L : Nat} : EOK θ L 229 E_229 := EOK.of (ml := []) rfl rfl rfl rfl q_229 (by decide +kernel) (fun n Q q hq => by cases hq)
set_option maxRecDepth 1000000 in
theorem q_230 : T_230 = (pT M_230).map (mkM []) := rfl
theorem o_230 {θ : Nat → Int32} {L : Nat} : EOK θ L 230 E_230 := EOK.of (ml := []) rfl rfl rfl rfl q_230 (by decide +kernel) (fun n Q q hq => by cases hq)
set_option maxRecDepth 1000000 in
theorem q_231 : T_231 = (pT M_231).map (mkM []) := rfl
theorem o_231 {θ : Nat → Int32} {L : Nat} : EOK θ L 231 E_231 := EOK.of (ml := []) rfl rfl rfl rfl q_231 (by decide +kernel) (fun n Q q hq => by cases hq)
set_option maxRecDepth 1000000 in
theorem q_232 : T_232 = (pT M_232).map (mkM []) := rfl
theorem o_232 {θ : Nat → Int32} {L : Nat} : EOK θ L 232 E_232 := EOK.of (ml := []) rfl rfl rfl rfl q_232 (by decide +kernel) (fun n Q q hq => by cases hq)
set_option maxRecDepth 1000000 in
theorem q_233 : T_233 = (pT M_233).map (mkM []) := rfl
theorem o_233 {θ : Nat → Int32} {L : Nat} : EOK θ L 233 E_233 := EOK.of (ml := []) rfl rfl rfl rfl q_233 (by decide +kernel) (fun n Q q hq => by cases hq)
set_option maxRecDepth 1000000 in
theorem q_234 : T_234 = (pT M_234).map (mkM []) := rfl
theorem o_234 {θ : Nat → Int32} {L : Nat} : EOK θ L 234 E_234 := EOK.of (ml := []) rfl rfl rfl rfl q_234 (by decide +kernel) (fun n Q q hq => by cases hq)
set_option maxRecDepth 1000000 in
theorem q_235 : T_235 = (pT M_235).map (mkM []) := rfl
theorem o_235 {θ : Nat → Int32} {L : Nat} : EOK θ L 235 E_235 := EOK.of (ml := []) rfl rfl rfl rfl q_235 (by decide +kernel) (fun n Q q hq => by cases hq)
set_option maxRecDepth 1000000 in
theorem q_236 : T_236 = (pT M_236).map (mkM []) := rfl
theorem o_236 {θ : Nat → Int32} {L : Nat} : EOK θ L 236 E_236 := EOK.of (ml := []) rfl rfl rfl rfl q_236 (by decide +kernel) (fun n Q q hq => by cases hq)
set_option maxRecDepth 1000000 in
theorem q_237 : T_237 = (pT M_237).map (mkM []) := rfl
theorem o_237 {θ : Nat → Int32} {L : Nat} : EOK θ L 237 E_237 := EOK.of (ml := []) rfl rfl rfl rfl q_237 (by decide +kernel) (fun n Q q hq => by cases hq)
set_option maxRecDepth 1000000 in
theorem q_238 : T_238 = (pT M_238).map (mkM []) := rfl
theorem o_238 {θ : Nat → Int32} {L : Nat} : EOK θ L 238 E_238 := EOK.of (ml := []) rfl rfl rfl rfl q_238 (by decide +kernel) (fun n Q q hq => by cases hq)
set_option maxRecDepth 1000000 in
theorem q_239 : T_239 = (pT M_239).map (mkM []) := rfl
theorem o_239 {θ : Nat → Int32} {L : Nat} : EOK θ L 239 E_239 := EOK.of (ml := []) rfl rfl rfl rfl q_239 (by decide +kernel) (fun n Q q hq => by cases hq)
set_option maxRecDepth 1000000 in
theorem q_240 : T_240 = (pT M_240).map (mkM []) := rfl
theorem o_240 {θ : Nat → Int32} {L : Nat} : EOK θ L 240 E_240 := EOK.of (ml := []) rfl rfl rfl rfl q_240 (by decide +kernel) (fun n Q q hq => by cases hq)
set_option maxRecDepth 1000000 in
theorem q_244 : T_244 = (pT M_244).map (mkM []) := rfl
theorem o_244 {θ : Nat → Int32} {L : Nat} : EOK θ L 244 E_244 := EOK.of (ml := []) rfl rfl rfl rfl q_244 (by decide +kernel) (fun n Q q hq => by cases hq)
set_option maxRecDepth 1000000 in
theorem q_245 : T_245 = (pT M_245).map (mkM []) := rfl
theorem o_245 {θ : Nat → Int32} {L : Nat} : EOK θ L 245 E_245 := EOK.of (ml := []) rfl rfl rfl rfl q_245 (by decide +kernel) (fun n Q q hq => by cases hq)
set_option maxRecDepth 1000000 in
theorem q_252 : T_252 = (pT M_252).map (mkM []) := rfl
theorem o_252 {θ : Nat → Int32} {L : Nat} : EOK θ L 252 E_252 := EOK.of (ml := []) rfl rfl rfl rfl q_252 (by decide +kernel) (fun n Q q hq => by cases hq)
set_option maxRecDepth 1000000 in
theorem q_253 : T_253 = (pT M_253).map (mkM []) := rfl
theorem o_253 {θ : Nat → Int32} {L : Nat} : EOK θ L 253 E_253 := EOK.of (ml := []) rfl rfl rfl rfl q_253 (by decide +kernel) (fun n Q q hq => by cases hq)
set_option maxRecDepth 1000000 in
theorem q_254 : T_254 = (pT M_254).map (mkM []) := rfl
theorem o_254 {θ : Nat → Int32} {L : Nat} : EOK θ L 254 E_254 := EOK.of (ml := []) rfl rfl rfl rfl q_254 (by decide +kernel) (fun n Q q hq => by cases hq)
set_option maxRecDepth 1000000 in
theorem q_255 : T_255 = (pT M_255).map (mkM []) := rfl
theorem o_255 {θ : Nat → Int32} {L : Nat} : EOK θ L 255 E_255 := EOK.of (ml := []) rfl rfl rfl rfl q_255 (by decide +kernel) (fun n Q q hq => by cases hq)
set_option maxRecDepth 1000000 in
theorem q_256 : T_256 = (pT M_256).map (mkM [(2, x_256_2)]) := rfl
theorem o_256 {θ : Nat → Int32} {L : Nat} : EOK θ L 256 E_256 := EOK.of (ml := [(2, x_256_2)]) rfl rfl rfl rfl q_256 (by decide +kernel) (fun n Q q hq => by
  simp only [List.mem_cons, List.not_mem_nil, or_false] at hq
  rcases hq with rfl
  · exact m_256_2 (Ex.mono _ _))
set_option maxRecDepth 1000000 in
theorem q_257 : T_257 = (pT M_257).map (mkM []) := rfl
theorem o_257 {θ : Nat → Int32} {L : Nat} : EOK θ L 257 E_257 := EOK.of (ml := []) rfl rfl rfl rfl q_257 (by decide +kernel) (fun n Q q hq => by cases hq)
set_option maxRecDepth 1000000 in
theorem q_258 : T_258 = (pT M_258).map (mkM []) := rfl
theorem o_258 {θ : Nat → Int32} {L : Nat} : EOK θ L 258 E_258 := EOK.of (ml := []) rfl rfl rfl rfl q_258 (by decide +kernel) (fun n Q q hq => by cases hq)
set_option maxRecDepth 1000000 in
theorem q_259 : T_259 = (pT M_259).map (mkM []) := rfl
theorem o_259 {θ : Nat → Int32} {L : Nat} : EOK θ L 259 E_259 := EOK.of (ml := []) rfl rfl rfl rfl q_259 (by decide +kernel) (fun n Q q hq => by cases hq)
set_option maxRecDepth 1000000 in
theorem q_260 : T_260 = (pT M_260).map (mkM []) := rfl
theorem o_260 {θ : Nat → Int32} {L : Nat} : EOK θ L 260 E_260 := EOK.of (ml := []) rfl rfl rfl rfl q_260 (by decide +kernel) (fun n Q q hq => by cases hq)
set_option maxRecDepth 1000000 in
theorem q_262 : T_262 = (pT M_262).map (mkM []) := rfl
theorem o_262 {θ : Nat → Int32} {L : Nat} : EOK θ L 262 E_262 := EOK.of (ml := []) rfl rfl rfl rfl q_262 (by decide +kernel) (fun n Q q hq => by cases hq)
set_option maxRecDepth 1000000 in
theorem q_263 : T_263 = (pT M_263).map (mkM []) := rfl
theorem o_263 {θ : Nat → Int32} {L : Nat} : EOK θ L 263 E_263 := EOK.of (ml := []) rfl rfl rfl rfl q_263 (by decide +kernel) (fun n Q q hq => by cases hq)
set_option maxRecDepth 1000000 in
theorem q_267 : T_267 = (pT M_267).map (mkM []) := rfl
theorem o_267 {θ : Nat → Int32} {L : Nat} : EOK θ L 267 E_267 := EOK.of (ml := []) rfl rfl rfl rfl q_267 (by decide +kernel) (fun n Q q hq => by cases hq)
set_option maxRecDepth 1000000 in
theorem q_268 : T_268 = (pT M_268).map (mkM []) := rfl
theorem o_268 {θ : Nat → Int32} {L : Nat} : EOK θ L 268 E_268 := EOK.of (ml := []) rfl rfl rfl rfl q_268 (by decide +kernel) (fun n Q q hq => by cases hq)
set_option maxRecDepth 1000000 in
theorem q_269 : T_269 = (pT M_269).map (mkM []) := rfl
theorem o_269 {θ : Nat → Int32} {L : Nat} : EOK θ L 269 E_269 := EOK.of (ml := []) rfl rfl rfl rfl q_269 (by decide +kernel) (fun n Q q hq => by cases hq)
