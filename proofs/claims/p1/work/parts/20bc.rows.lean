/-! laid by wip/p1/gen7.py -/
set_option maxRecDepth 1000000 in
theorem q_109 : T_109 = (pT M_109).map (mkM []) := rfl
theorem o_109 {θ : Nat → Int32} {L : Nat} : EOK θ L 109 E_109 := EOK.of (ml := []) rfl rfl rfl rfl q_109 (by decide +kernel) (fun n Q q hq => by cases hq)
set_option maxRecDepth 1000000 in
theorem q_110 : T_110 = (pT M_110).map (mkM []) := rfl
theorem o_110 {θ : Nat → Int32} {L : Nat} : EOK θ L 110 E_110 := EOK.of (ml := []) rfl rfl rfl rfl q_110 (by decide +kernel) (fun n Q q hq => by cases hq)
set_option maxRecDepth 1000000 in
theorem q_111 : T_111 = (pT M_111).map (mkM []) := rfl
theorem o_111 {θ : Nat → Int32} {L : Nat} : EOK θ L 111 E_111 := EOK.of (ml := []) rfl rfl rfl rfl q_111 (by decide +kernel) (fun n Q q hq => by cases hq)
set_option maxRecDepth 1000000 in
theorem q_112 : T_112 = (pT M_112).map (mkM []) := rfl
theorem o_112 {θ : Nat → Int32} {L : Nat} : EOK θ L 112 E_112 := EOK.of (ml := []) rfl rfl rfl rfl q_112 (by decide +kernel) (fun n Q q hq => by cases hq)
set_option maxRecDepth 1000000 in
theorem q_113 : T_113 = (pT M_113).map (mkM []) := rfl
theorem o_113 {θ : Nat → Int32} {L : Nat} : EOK θ L 113 E_113 := EOK.of (ml := []) rfl rfl rfl rfl q_113 (by decide +kernel) (fun n Q q hq => by cases hq)
set_option maxRecDepth 1000000 in
theorem q_114 : T_114 = (pT M_114).map (mkM []) := rfl
theorem o_114 {θ : Nat → Int32} {L : Nat} : EOK θ L 114 E_114 := EOK.of (ml := []) rfl rfl rfl rfl q_114 (by decide +kernel) (fun n Q q hq => by cases hq)
set_option maxRecDepth 1000000 in
theorem q_115 : T_115 = (pT M_115).map (mkM []) := rfl
theorem o_115 {θ : Nat → Int32} {L : Nat} : EOK θ L 115 E_115 := EOK.of (ml := []) rfl rfl rfl rfl q_115 (by decide +kernel) (fun n Q q hq => by cases hq)
set_option maxRecDepth 1000000 in
theorem q_116 : T_116 = (pT M_116).map (mkM []) := rfl
theorem o_116 {θ : Nat → Int32} {L : Nat} : EOK θ L 116 E_116 := EOK.of (ml := []) rfl rfl rfl rfl q_116 (by decide +kernel) (fun n Q q hq => by cases hq)
set_option maxRecDepth 1000000 in
theorem q_117 : T_117 = (pT M_117).map (mkM []) := rfl
theorem o_117 {θ : Nat → Int32} {L : Nat} : EOK θ L 117 E_117 := EOK.of (ml := []) rfl rfl rfl rfl q_117 (by decide +kernel) (fun n Q q hq => by cases hq)
set_option maxRecDepth 1000000 in
theorem q_118 : T_118 = (pT M_118).map (mkM []) := rfl
theorem o_118 {θ : Nat → Int32} {L : Nat} : EOK θ L 118 E_118 := EOK.of (ml := []) rfl rfl rfl rfl q_118 (by decide +kernel) (fun n Q q hq => by cases hq)
set_option maxRecDepth 1000000 in
theorem q_119 : T_119 = (pT M_119).map (mkM []) := rfl
theorem o_119 {θ : Nat → Int32} {L : Nat} : EOK θ L 119 E_119 := EOK.of (ml := []) rfl rfl rfl rfl q_119 (by decide +kernel) (fun n Q q hq => by cases hq)
set_option maxRecDepth 1000000 in
theorem q_121 : T_121 = (pT M_121).map (mkM []) := rfl
theorem o_121 {θ : Nat → Int32} {L : Nat} : EOK θ L 121 E_121 := EOK.of (ml := []) rfl rfl rfl rfl q_121 (by decide +kernel) (fun n Q q hq => by cases hq)
set_option maxRecDepth 1000000 in
theorem q_122 : T_122 = (pT M_122).map (mkM []) := rfl
theorem o_122 {θ : Nat → Int32} {L : Nat} : EOK θ L 122 E_122 := EOK.of (ml := []) rfl rfl rfl rfl q_122 (by decide +kernel) (fun n Q q hq => by cases hq)
set_option maxRecDepth 1000000 in
theorem q_123 : T_123 = (pT M_123).map (mkM []) := rfl
theorem o_123 {θ : Nat → Int32} {L : Nat} : EOK θ L 123 E_123 := EOK.of (ml := []) rfl rfl rfl rfl q_123 (by decide +kernel) (fun n Q q hq => by cases hq)
set_option maxRecDepth 1000000 in
theorem q_135 : T_135 = (pT M_135).map (mkM []) := rfl
theorem o_135 {θ : Nat → Int32} {L : Nat} : EOK θ L 135 E_135 := EOK.of (ml := []) rfl rfl rfl rfl q_135 (by decide +kernel) (fun n Q q hq => by cases hq)
set_option maxRecDepth 1000000 in
theorem q_136 : T_136 = (pT M_136).map (mkM []) := rfl
theorem o_136 {θ : Nat → Int32} {L : Nat} : EOK θ L 136 E_136 := EOK.of (ml := []) rfl rfl rfl rfl q_136 (by decide +kernel) (fun n Q q hq => by cases hq)
set_option maxRecDepth 1000000 in
theorem q_137 : T_137 = (pT M_137).map (mkM []) := rfl
theorem o_137 {θ : Nat → Int32} {L : Nat} : EOK θ L 137 E_137 := EOK.of (ml := []) rfl rfl rfl rfl q_137 (by decide +kernel) (fun n Q q hq => by cases hq)
set_option maxRecDepth 1000000 in
theorem q_138 : T_138 = (pT M_138).map (mkM []) := rfl
theorem o_138 {θ : Nat → Int32} {L : Nat} : EOK θ L 138 E_138 := EOK.of (ml := []) rfl rfl rfl rfl q_138 (by decide +kernel) (fun n Q q hq => by cases hq)
set_option maxRecDepth 1000000 in
theorem q_139 : T_139 = (pT M_139).map (mkM []) := rfl
theorem o_139 {θ : Nat → Int32} {L : Nat} : EOK θ L 139 E_139 := EOK.of (ml := []) rfl rfl rfl rfl q_139 (by decide +kernel) (fun n Q q hq => by cases hq)
set_option maxRecDepth 1000000 in
theorem q_140 : T_140 = (pT M_140).map (mkM []) := rfl
theorem o_140 {θ : Nat → Int32} {L : Nat} : EOK θ L 140 E_140 := EOK.of (ml := []) rfl rfl rfl rfl q_140 (by decide +kernel) (fun n Q q hq => by cases hq)
set_option maxRecDepth 1000000 in
theorem q_141 : T_141 = (pT M_141).map (mkM []) := rfl
theorem o_141 {θ : Nat → Int32} {L : Nat} : EOK θ L 141 E_141 := EOK.of (ml := []) rfl rfl rfl rfl q_141 (by decide +kernel) (fun n Q q hq => by cases hq)
set_option maxRecDepth 1000000 in
theorem q_142 : T_142 = (pT M_142).map (mkM []) := rfl
theorem o_142 {θ : Nat → Int32} {L : Nat} : EOK θ L 142 E_142 := EOK.of (ml := []) rfl rfl rfl rfl q_142 (by decide +kernel) (fun n Q q hq => by cases hq)
set_option maxRecDepth 1000000 in
theorem q_143 : T_143 = (pT M_143).map (mkM []) := rfl
theorem o_143 {θ : Nat → Int32} {L : Nat} : EOK θ L 143 E_143 := EOK.of (ml := []) rfl rfl rfl rfl q_143 (by decide +kernel) (fun n Q q hq => by cases hq)
set_option maxRecDepth 1000000 in
theorem q_144 : T_144 = (pT M_144).map (mkM []) := rfl
theorem o_144 {θ : Nat → Int32} {L : Nat} : EOK θ L 144 E_144 := EOK.of (ml := []) rfl rfl rfl rfl q_144 (by decide +kernel) (fun n Q q hq => by cases hq)
set_option maxRecDepth 1000000 in
theorem q_145 : T_145 = (pT M_145).map (mkM []) := rfl
theorem o_145 {θ : Nat → Int32} {L : Nat} : EOK θ L 145 E_145 := EOK.of (ml := []) rfl rfl rfl rfl q_145 (by decide +kernel) (fun n Q q hq => by cases hq)
set_option maxRecDepth 1000000 in
theorem q_147 : T_147 = (pT M_147).map (mkM []) := rfl
theorem o_147 {θ : Nat → Int32} {L : Nat} : EOK θ L 147 E_147 := EOK.of (ml := []) rfl rfl rfl rfl q_147 (by decide +kernel) (fun n Q q hq => by cases hq)
set_option maxRecDepth 1000000 in
theorem q_148 : T_148 = (pT M_148).map (mkM []) := rfl
theorem o_148 {θ : Nat → Int32} {L : Nat} : EOK θ L 148 E_148 := EOK.of (ml := []) rfl rfl rfl rfl q_148 (by decide +kernel) (fun n Q q hq => by cases hq)
set_option maxRecDepth 1000000 in
theorem q_149 : T_149 = (pT M_149).map (mkM []) := rfl
theorem o_149 {θ : Nat → Int32} {L : Nat} : EOK θ L 149 E_149 := EOK.of (ml := []) rfl rfl rfl rfl q_149 (by decide +kernel) (fun n Q q hq => by cases hq)
set_option maxRecDepth 1000000 in
theorem q_150 : T_150 = (pT M_150).map (mkM []) := rfl
theorem o_150 {θ : Nat → Int32} {L : Nat} : EOK θ L 150 E_150 := EOK.of (ml := []) rfl rfl rfl rfl q_150 (by decide +kernel) (fun n Q q hq => by cases hq)
set_option maxRecDepth 1000000 in
theorem q_151 : T_151 = (pT M_151).map (mkM []) := rfl
theorem o_151 {θ : Nat → Int32} {L : Nat} : EOK θ L 151 E_151 := EOK.of (ml := []) rfl rfl rfl rfl q_151 (by decide +kernel) (fun n Q q hq => by cases hq)
set_option maxRecDepth 1000000 in
theorem q_153 : T_153 = (pT M_153).map (mkM []) := rfl
theorem o_153 {θ : Nat → Int32} {L : Nat} : EOK θ L 153 E_153 := EOK.of (ml := []) rfl rfl rfl rfl q_153 (by decide +kernel) (fun n Q q hq => by cases hq)
set_option maxRecDepth 1000000 in
theorem q_154 : T_154 = (pT M_154).map (mkM []) := rfl
theorem o_154 {θ : Nat → Int32} {L : Nat} : EOK θ L 154 E_154 := EOK.of (ml := []) rfl rfl rfl rfl q_154 (by decide +kernel) (fun n Q q hq => by cases hq)
set_option maxRecDepth 1000000 in
theorem q_155 : T_155 = (pT M_155).map (mkM []) := rfl
theorem o_155 {θ : Nat → Int32} {L : Nat} : EOK θ L 155 E_155 := EOK.of (ml := []) rfl rfl rfl rfl q_155 (by decide +kernel) (fun n Q q hq => by cases hq)
set_option maxRecDepth 1000000 in
theorem q_156 : T_156 = (pT M_156).map (mkM []) := rfl
theorem o_156 {θ : Nat → Int32} {L : Nat} : EOK θ L 156 E_156 := EOK.of (ml := []) rfl rfl rfl rfl q_156 (by decide +kernel) (fun n Q q hq => by cases hq)
set_option maxRecDepth 1000000 in
theorem q_157 : T_157 = (pT M_157).map (mkM []) := rfl
theorem o_157 {θ : Nat → Int32} {L : Nat} : EOK θ L 157 E_157 := EOK.of (ml := []) rfl rfl rfl rfl q_157 (by decide +kernel) (fun n Q q hq => by cases hq)
set_option maxRecDepth 1000000 in
theorem q_158 : T_158 = (pT M_158).map (mkM []) := rfl
theorem o_158 {θ : Nat → Int32} {L : Nat} : EOK θ L 158 E_158 := EOK.of (ml := []) rfl rfl rfl rfl q_158 (by decide +kernel) (fun n Q q hq => by cases hq)
set_option maxRecDepth 1000000 in
theorem q_159 : T_159 = (pT M_159).map (mkM []) := rfl
theorem o_159 {θ : Nat → Int32} {L : Nat} : EOK θ L 159 E_159 := EOK.of (ml := []) rfl rfl rfl rfl q_159 (by decide +kernel) (fun n Q q hq => by cases hq)
set_option maxRecDepth 1000000 in
theorem q_160 : T_160 = (pT M_160).map (mkM []) := rfl
theorem o_160 {θ : Nat → Int32} {L : Nat} : EOK θ L 160 E_160 := EOK.of (ml := []) rfl rfl rfl rfl q_160 (by decide +kernel) (fun n Q q hq => by cases hq)
set_option maxRecDepth 1000000 in
theorem q_161 : T_161 = (pT M_161).map (mkM [(2, x_161_2), (43, x_161_43)]) := rfl
theorem o_161 {θ : Nat → Int32} {L : Nat} : EOK θ L 161 E_161 := EOK.of (ml := [(2, x_161_2), (43, x_161_43)]) rfl rfl rfl rfl q_161 (by decide +kernel) (fun n Q q hq => by
  simp only [List.mem_cons, List.not_mem_nil, or_false] at hq
  rcases hq with rfl | rfl
  · exact m_161_2 (Ex.mono _ _)
  · exact m_161_43 (Ex.mono _ _))
set_option maxRecDepth 1000000 in
theorem q_165 : T_165 = (pT M_165).map (mkM []) := rfl
theorem o_165 {θ : Nat → Int32} {L : Nat} : EOK θ L 165 E_165 := EOK.of (ml := []) rfl rfl rfl rfl q_165 (by decide +kernel) (fun n Q q hq => by cases hq)
set_option maxRecDepth 1000000 in
theorem q_166 : T_166 = (pT M_166).map (mkM []) := rfl
theorem o_166 {θ : Nat → Int32} {L : Nat} : EOK θ L 166 E_166 := EOK.of (ml := []) rfl rfl rfl rfl q_166 (by decide +kernel) (fun n Q q hq => by cases hq)
