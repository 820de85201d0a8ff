/-! laid by wip/p1/gen7.py -/
set_option maxRecDepth 1000000 in
theorem q_270 : T_270 = (pT M_270).map (mkM [(2, x_270_2)]) := rfl
theorem o_270 {θ : Nat → Int32} {L : Nat} : EOK θ L 270 E_270 := EOK.of (ml := [(2, x_270_2)]) rfl rfl rfl rfl q_270 (by decide +kernel) (fun n Q q hq => by
  simp only [List.mem_cons, List.not_mem_nil, or_false] at hq
  rcases hq with rfl
  · exact m_270_2 (Ex.mono _ _))
set_option maxRecDepth 1000000 in
theorem q_275 : T_275 = (pT M_275).map (mkM []) := rfl
theorem o_275 {θ : Nat → Int32} {L : Nat} : EOK θ L 275 E_275 := EOK.of (ml := []) rfl rfl rfl rfl q_275 (by decide +kernel) (fun n Q q hq => by cases hq)
set_option maxRecDepth 1000000 in
theorem q_276 : T_276 = (pT M_276).map (mkM []) := rfl
theorem o_276 {θ : Nat → Int32} {L : Nat} : EOK θ L 276 E_276 := EOK.of (ml := []) rfl rfl rfl rfl q_276 (by decide +kernel) (fun n Q q hq => by cases hq)
set_option maxRecDepth 1000000 in
theorem q_277 : T_277 = (pT M_277).map (mkM []) := rfl
theorem o_277 {θ : Nat → Int32} {L : Nat} : EOK θ L 277 E_277 := EOK.of (ml := []) rfl rfl rfl rfl q_277 (by decide +kernel) (fun n Q q hq => by cases hq)
set_option maxRecDepth 1000000 in
theorem q_278 : T_278 = (pT M_278).map (mkM []) := rfl
theorem o_278 {θ : Nat → Int32} {L : Nat} : EOK θ L 278 E_278 := EOK.of (ml := []) rfl rfl rfl rfl q_278 (by decide +kernel) (fun n Q q hq => by cases hq)
set_option maxRecDepth 1000000 in
theorem q_279 : T_279 = (pT M_279).map (mkM []) := rfl
theorem o_279 {θ : Nat → Int32} {L : Nat} : EOK θ L 279 E_279 := EOK.of (ml := []) rfl rfl rfl rfl q_279 (by decide +kernel) (fun n Q q hq => by cases hq)
set_option maxRecDepth 1000000 in
theorem q_280 : T_280 = (pT M_280).map (mkM []) := rfl
theorem o_280 {θ : Nat → Int32} {L : Nat} : EOK θ L 280 E_280 := EOK.of (ml := []) rfl rfl rfl rfl q_280 (by decide +kernel) (fun n Q q hq => by cases hq)
set_option maxRecDepth 1000000 in
theorem q_281 : T_281 = (pT M_281).map (mkM []) := rfl
theorem o_281 {θ : Nat → Int32} {L : Nat} : EOK θ L 281 E_281 := EOK.of (ml := []) rfl rfl rfl rfl q_281 (by decide +kernel) (fun n Q q hq => by cases hq)
set_option maxRecDepth 1000000 in
theorem q_282 : T_282 = (pT M_282).map (mkM []) := rfl
theorem o_282 {θ : Nat → Int32} {L : Nat} : EOK θ L 282 E_282 := EOK.of (ml := []) rfl rfl rfl rfl q_282 (by decide +kernel) (fun n Q q hq => by cases hq)
set_option maxRecDepth 1000000 in
theorem q_284 : T_284 = (pT M_284).map (mkM []) := rfl
theorem o_284 {θ : Nat → Int32} {L : Nat} : EOK θ L 284 E_284 := EOK.of (ml := []) rfl rfl rfl rfl q_284 (by decide +kernel) (fun n Q q hq => by cases hq)
set_option maxRecDepth 1000000 in
theorem q_292 : T_292 = (pT M_292).map (mkM []) := rfl
theorem o_292 {θ : Nat → Int32} {L : Nat} : EOK θ L 292 E_292 := EOK.of (ml := []) rfl rfl rfl rfl q_292 (by decide +kernel) (fun n Q q hq => by cases hq)
set_option maxRecDepth 1000000 in
theorem q_293 : T_293 = (pT M_293).map (mkM []) := rfl
theorem o_293 {θ : Nat → Int32} {L : Nat} : EOK θ L 293 E_293 := EOK.of (ml := []) rfl rfl rfl rfl q_293 (by decide +kernel) (fun n Q q hq => by cases hq)
set_option maxRecDepth 1000000 in
theorem q_294 : T_294 = (pT M_294).map (mkM []) := rfl
theorem o_294 {θ : Nat → Int32} {L : Nat} : EOK θ L 294 E_294 := EOK.of (ml := []) rfl rfl rfl rfl q_294 (by decide +kernel) (fun n Q q hq => by cases hq)
set_option maxRecDepth 1000000 in
theorem q_296 : T_296 = (pT M_296).map (mkM []) := rfl
theorem o_296 {θ : Nat → Int32} {L : Nat} : EOK θ L 296 E_296 := EOK.of (ml := []) rfl rfl rfl rfl q_296 (by decide +kernel) (fun n Q q hq => by cases hq)
set_option maxRecDepth 1000000 in
theorem q_300 : T_300 = (pT M_300).map (mkM []) := rfl
theorem o_300 {θ : Nat → Int32} {L : Nat} : EOK θ L 300 E_300 := EOK.of (ml := []) rfl rfl rfl rfl q_300 (by decide +kernel) (fun n Q q hq => by cases hq)
set_option maxRecDepth 1000000 in
theorem q_301 : T_301 = (pT M_301).map (mkM []) := rfl
theorem o_301 {θ : Nat → Int32} {L : Nat} : EOK θ L 301 E_301 := EOK.of (ml := []) rfl rfl rfl rfl q_301 (by decide +kernel) (fun n Q q hq => by cases hq)
set_option maxRecDepth 1000000 in
theorem q_302 : T_302 = (pT M_302).map (mkM []) := rfl
theorem o_302 {θ : Nat → Int32} {L : Nat} : EOK θ L 302 E_302 := EOK.of (ml := []) rfl rfl rfl rfl q_302 (by decide +kernel) (fun n Q q hq => by cases hq)
set_option maxRecDepth 1000000 in
theorem q_303 : T_303 = (pT M_303).map (mkM []) := rfl
theorem o_303 {θ : Nat → Int32} {L : Nat} : EOK θ L 303 E_303 := EOK.of (ml := []) rfl rfl rfl rfl q_303 (by decide +kernel) (fun n Q q hq => by cases hq)
set_option maxRecDepth 1000000 in
theorem q_304 : T_304 = (pT M_304).map (mkM []) := rfl
theorem o_304 {θ : Nat → Int32} {L : Nat} : EOK θ L 304 E_304 := EOK.of (ml := []) rfl rfl rfl rfl q_304 (by decide +kernel) (fun n Q q hq => by cases hq)
set_option maxRecDepth 1000000 in
theorem q_305 : T_305 = (pT M_305).map (mkM []) := rfl
theorem o_305 {θ : Nat → Int32} {L : Nat} : EOK θ L 305 E_305 := EOK.of (ml := []) rfl rfl rfl rfl q_305 (by decide +kernel) (fun n Q q hq => by cases hq)
set_option maxRecDepth 1000000 in
theorem q_307 : T_307 = (pT M_307).map (mkM []) := rfl
theorem o_307 {θ : Nat → Int32} {L : Nat} : EOK θ L 307 E_307 := EOK.of (ml := []) rfl rfl rfl rfl q_307 (by decide +kernel) (fun n Q q hq => by cases hq)
set_option maxRecDepth 1000000 in
theorem q_308 : T_308 = (pT M_308).map (mkM []) := rfl
theorem o_308 {θ : Nat → Int32} {L : Nat} : EOK θ L 308 E_308 := EOK.of (ml := []) rfl rfl rfl rfl q_308 (by decide +kernel) (fun n Q q hq => by cases hq)
set_option maxRecDepth 1000000 in
theorem q_309 : T_309 = (pT M_309).map (mkM []) := rfl
theorem o_309 {θ : Nat → Int32} {L : Nat} : EOK θ L 309 E_309 := EOK.of (ml := []) rfl rfl rfl rfl q_309 (by decide +kernel) (fun n Q q hq => by cases hq)
set_option maxRecDepth 1000000 in
theorem q_310 : T_310 = (pT M_310).map (mkM []) := rfl
theorem o_310 {θ : Nat → Int32} {L : Nat} : EOK θ L 310 E_310 := EOK.of (ml := []) rfl rfl rfl rfl q_310 (by decide +kernel) (fun n Q q hq => by cases hq)
set_option maxRecDepth 1000000 in
theorem q_311 : T_311 = (pT M_311).map (mkM []) := rfl
theorem o_311 {θ : Nat → Int32} {L : Nat} : EOK θ L 311 E_311 := EOK.of (ml := []) rfl rfl rfl rfl q_311 (by decide +kernel) (fun n Q q hq => by cases hq)
set_option maxRecDepth 1000000 in
theorem q_312 : T_312 = (pT M_312).map (mkM []) := rfl
theorem o_312 {θ : Nat → Int32} {L : Nat} : EOK θ L 312 E_312 := EOK.of (ml := []) rfl rfl rfl rfl q_312 (by decide +kernel) (fun n Q q hq => by cases hq)
set_option maxRecDepth 1000000 in
theorem q_313 : T_313 = (pT M_313).map (mkM []) := rfl
theorem o_313 {θ : Nat → Int32} {L : Nat} : EOK θ L 313 E_313 := EOK.of (ml := []) rfl rfl rfl rfl q_313 (by decide +kernel) (fun n Q q hq => by cases hq)
set_option maxRecDepth 1000000 in
theorem q_314 : T_314 = (pT M_314).map (mkM []) := rfl
theorem o_314 {θ : Nat → Int32} {L : Nat} : EOK θ L 314 E_314 := EOK.of (ml := []) rfl rfl rfl rfl q_314 (by decide +kernel) (fun n Q q hq => by cases hq)
set_option maxRecDepth 1000000 in
theorem q_315 : T_315 = (pT M_315).map (mkM []) := rfl
theorem o_315 {θ : Nat → Int32} {L : Nat} : EOK θ L 315 E_315 := EOK.of (ml := []) rfl rfl rfl rfl q_315 (by decide +kernel) (fun n Q q hq => by cases hq)
set_option maxRecDepth 1000000 in
theorem q_316 : T_316 = (pT M_316).map (mkM []) := rfl
theorem o_316 {θ : Nat → Int32} {L : Nat} : EOK θ L 316 E_316 := EOK.of (ml := []) rfl rfl rfl rfl q_316 (by decide +kernel) (fun n Q q hq => by cases hq)
set_option maxRecDepth 1000000 in
theorem q_317 : T_317 = (pT M_317).map (mkM [(75, x_317_75)]) := rfl
theorem o_317 {θ : Nat → Int32} {L : Nat} : EOK θ L 317 E_317 := EOK.of (ml := [(75, x_317_75)]) rfl rfl rfl rfl q_317 (by decide +kernel) (fun n Q q hq => by
  simp only [List.mem_cons, List.not_mem_nil, or_false] at hq
  rcases hq with rfl
  · exact m_317_75 (Ex.mono _ _))
set_option maxRecDepth 1000000 in
theorem q_318 : T_318 = (pT M_318).map (mkM [(2, x_318_2)]) := rfl
theorem o_318 {θ : Nat → Int32} {L : Nat} : EOK θ L 318 E_318 := EOK.of (ml := [(2, x_318_2)]) rfl rfl rfl rfl q_318 (by decide +kernel) (fun n Q q hq => by
  simp only [List.mem_cons, List.not_mem_nil, or_false] at hq
  rcases hq with rfl
  · exact m_318_2 (Ex.mono _ _))
