/-! laid by wip/p1/gen7.py -/
set_option maxRecDepth 1000000 in
theorem q_58 : T_58 = (pT M_58).map (mkM []) := rfl
theorem o_58 {θ : Nat → Int32} {L : Nat} : EOK θ L 58 E_58 := EOK.of (ml := []) rfl rfl rfl rfl q_58 (by decide +kernel) (fun n Q q hq => by cases hq)
set_option maxRecDepth 1000000 in
theorem q_59 : T_59 = (pT M_59).map (mkM []) := rfl
theorem o_59 {θ : Nat → Int32} {L : Nat} : EOK θ L 59 E_59 := EOK.of (ml := []) rfl rfl rfl rfl q_59 (by decide +kernel) (fun n Q q hq => by cases hq)
set_option maxRecDepth 1000000 in
theorem q_60 : T_60 = (pT M_60).map (mkM []) := rfl
theorem o_60 {θ : Nat → Int32} {L : Nat} : EOK θ L 60 E_60 := EOK.of (ml := []) rfl rfl rfl rfl q_60 (by decide +kernel) (fun n Q q hq => by cases hq)
set_option maxRecDepth 1000000 in
theorem q_61 : T_61 = (pT M_61).map (mkM []) := rfl
theorem o_61 {θ : Nat → Int32} {L : Nat} : EOK θ L 61 E_61 := EOK.of (ml := []) rfl rfl rfl rfl q_61 (by decide +kernel) (fun n Q q hq => by cases hq)
set_option maxRecDepth 1000000 in
theorem q_62 : T_62 = (pT M_62).map (mkM []) := rfl
theorem o_62 {θ : Nat → Int32} {L : Nat} : EOK θ L 62 E_62 := EOK.of (ml := []) rfl rfl rfl rfl q_62 (by decide +kernel) (fun n Q q hq => by cases hq)
set_option maxRecDepth 1000000 in
theorem q_63 : T_63 = (pT M_63).map (mkM []) := rfl
theorem o_63 {θ : Nat → Int32} {L : Nat} : EOK θ L 63 E_63 := EOK.of (ml := []) rfl rfl rfl rfl q_63 (by decide +kernel) (fun n Q q hq => by cases hq)
set_option maxRecDepth 1000000 in
theorem q_64 : T_64 = (pT M_64).map (mkM []) := rfl
theorem o_64 {θ : Nat → Int32} {L : Nat} : EOK θ L 64 E_64 := EOK.of (ml := []) rfl rfl rfl rfl q_64 (by decide +kernel) (fun n Q q hq => by cases hq)
set_option maxRecDepth 1000000 in
theorem q_65 : T_65 = (pT M_65).map (mkM []) := rfl
theorem o_65 {θ : Nat → Int32} {L : Nat} : EOK θ L 65 E_65 := EOK.of (ml := []) rfl rfl rfl rfl q_65 (by decide +kernel) (fun n Q q hq => by cases hq)
set_option maxRecDepth 1000000 in
theorem q_66 : T_66 = (pT M_66).map (mkM []) := rfl
theorem o_66 {θ : Nat → Int32} {L : Nat} : EOK θ L 66 E_66 := EOK.of (ml := []) rfl rfl rfl rfl q_66 (by decide +kernel) (fun n Q q hq => by cases hq)
set_option maxRecDepth 1000000 in
theorem q_67 : T_67 = (pT M_67).map (mkM []) := rfl
theorem o_67 {θ : Nat → Int32} {L : Nat} : EOK θ L 67 E_67 := EOK.of (ml := []) rfl rfl rfl rfl q_67 (by decide +kernel) (fun n Q q hq => by cases hq)
set_option maxRecDepth 1000000 in
theorem q_68 : T_68 = (pT M_68).map (mkM []) := rfl
theorem o_68 {θ : Nat → Int32} {L : Nat} : EOK θ L 68 E_68 := EOK.of (ml := []) rfl rfl rfl rfl q_68 (by decide +kernel) (fun n Q q hq => by cases hq)
set_option maxRecDepth 1000000 in
theorem q_69 : T_69 = (pT M_69).map (mkM []) := rfl
theorem o_69 {θ : Nat → Int32} {L : Nat} : EOK θ L 69 E_69 := EOK.of (ml := []) rfl rfl rfl rfl q_69 (by decide +kernel) (fun n Q q hq => by cases hq)
set_option maxRecDepth 1000000 in
theorem q_70 : T_70 = (pT M_70).map (mkM []) := rfl
theorem o_70 {θ : Nat → Int32} {L : Nat} : EOK θ L 70 E_70 := EOK.of (ml := []) rfl rfl rfl rfl q_70 (by decide +kernel) (fun n Q q hq => by cases hq)
set_option maxRecDepth 1000000 in
theorem q_71 : T_71 = (pT M_71).map (mkM []) := rfl
theorem o_71 {θ : Nat → Int32} {L : Nat} : EOK θ L 71 E_71 := EOK.of (ml := []) rfl rfl rfl rfl q_71 (by decide +kernel) (fun n Q q hq => by cases hq)
set_option maxRecDepth 1000000 in
theorem q_72 : T_72 = (pT M_72).map (mkM []) := rfl
theorem o_72 {θ : Nat → Int32} {L : Nat} : EOK θ L 72 E_72 := EOK.of (ml := []) rfl rfl rfl rfl q_72 (by decide +kernel) (fun n Q q hq => by cases hq)
set_option maxRecDepth 1000000 in
theorem q_73 : T_73 = (pT M_73).map (mkM []) := rfl
theorem o_73 {θ : Nat → Int32} {L : Nat} : EOK θ L 73 E_73 := EOK.of (ml := []) rfl rfl rfl rfl q_73 (by decide +kernel) (fun n Q q hq => by cases hq)
set_option maxRecDepth 1000000 in
theorem q_74 : T_74 = (pT M_74).map (mkM []) := rfl
theorem o_74 {θ : Nat → Int32} {L : Nat} : EOK θ L 74 E_74 := EOK.of (ml := []) rfl rfl rfl rfl q_74 (by decide +kernel) (fun n Q q hq => by cases hq)
set_option maxRecDepth 1000000 in
theorem q_75 : T_75 = (pT M_75).map (mkM []) := rfl
theorem o_75 {θ : Nat → Int32} {L : Nat} : EOK θ L 75 E_75 := EOK.of (ml := []) rfl rfl rfl rfl q_75 (by decide +kernel) (fun n Q q hq => by cases hq)
set_option maxRecDepth 1000000 in
theorem q_76 : T_76 = (pT M_76).map (mkM [(5, x_76_5)]) := rfl
theorem o_76 {θ : Nat → Int32} {L : Nat} : EOK θ L 76 E_76 := EOK.of (ml := [(5, x_76_5)]) rfl rfl rfl rfl q_76 (by decide +kernel) (fun n Q q hq => by
  simp only [List.mem_cons, List.not_mem_nil, or_false] at hq
  rcases hq with rfl
  · exact m_76_5 (Ex.mono _ _))
set_option maxRecDepth 1000000 in
theorem q_78 : T_78 = (pT M_78).map (mkM []) := rfl
theorem o_78 {θ : Nat → Int32} {L : Nat} : EOK θ L 78 E_78 := EOK.of (ml := []) rfl rfl rfl rfl q_78 (by decide +kernel) (fun n Q q hq => by cases hq)
set_option maxRecDepth 1000000 in
theorem q_79 : T_79 = (pT M_79).map (mkM []) := rfl
theorem o_79 {θ : Nat → Int32} {L : Nat} : EOK θ L 79 E_79 := EOK.of (ml := []) rfl rfl rfl rfl q_79 (by decide +kernel) (fun n Q q hq => by cases hq)
set_option maxRecDepth 1000000 in
theorem q_81 : T_81 = (pT M_81).map (mkM []) := rfl
theorem o_81 {θ : Nat → Int32} {L : Nat} : EOK θ L 81 E_81 := EOK.of (ml := []) rfl rfl rfl rfl q_81 (by decide +kernel) (fun n Q q hq => by cases hq)
set_option maxRecDepth 1000000 in
theorem q_82 : T_82 = (pT M_82).map (mkM []) := rfl
theorem o_82 {θ : Nat → Int32} {L : Nat} : EOK θ L 82 E_82 := EOK.of (ml := []) rfl rfl rfl rfl q_82 (by decide +kernel) (fun n Q q hq => by cases hq)
set_option maxRecDepth 1000000 in
theorem q_83 : T_83 = (pT M_83).map (mkM []) := rfl
theorem o_83 {θ : Nat → Int32} {L : Nat} : EOK θ L 83 E_83 := EOK.of (ml := []) rfl rfl rfl rfl q_83 (by decide +kernel) (fun n Q q hq => by cases hq)
set_option maxRecDepth 1000000 in
theorem q_84 : T_84 = (pT M_84).map (mkM []) := rfl
theorem o_84 {θ : Nat → Int32} {L : Nat} : EOK θ L 84 E_84 := EOK.of (ml := []) rfl rfl rfl rfl q_84 (by decide +kernel) (fun n Q q hq => by cases hq)
set_option maxRecDepth 1000000 in
theorem q_85 : T_85 = (pT M_85).map (mkM []) := rfl
theorem o_85 {θ : Nat → Int32} {L : Nat} : EOK θ L 85 E_85 := EOK.of (ml := []) rfl rfl rfl rfl q_85 (by decide +kernel) (fun n Q q hq => by cases hq)
set_option maxRecDepth 1000000 in
theorem q_86 : T_86 = (pT M_86).map (mkM []) := rfl
theorem o_86 {θ : Nat → Int32} {L : Nat} : EOK θ L 86 E_86 := EOK.of (ml := []) rfl rfl rfl rfl q_86 (by decide +kernel) (fun n Q q hq => by cases hq)
set_option maxRecDepth 1000000 in
theorem q_87 : T_87 = (pT M_87).map (mkM []) := rfl
theorem o_87 {θ : Nat → Int32} {L : Nat} : EOK θ L 87 E_87 := EOK.of (ml := []) rfl rfl rfl rfl q_87 (by decide +kernel) (fun n Q q hq => by cases hq)
set_option maxRecDepth 1000000 in
theorem q_89 : T_89 = (pT M_89).map (mkM []) := rfl
theorem o_89 {θ : Nat → Int32} {L : Nat} : EOK θ L 89 E_89 := EOK.of (ml := []) rfl rfl rfl rfl q_89 (by decide +kernel) (fun n Q q hq => by cases hq)
set_option maxRecDepth 1000000 in
theorem q_103 : T_103 = (pT M_103).map (mkM []) := rfl
theorem o_103 {θ : Nat → Int32} {L : Nat} : EOK θ L 103 E_103 := EOK.of (ml := []) rfl rfl rfl rfl q_103 (by decide +kernel) (fun n Q q hq => by cases hq)
set_option maxRecDepth 1000000 in
theorem q_104 : T_104 = (pT M_104).map (mkM []) := rfl
theorem o_104 {θ : Nat → Int32} {L : Nat} : EOK θ L 104 E_104 := EOK.of (ml := []) rfl rfl rfl rfl q_104 (by decide +kernel) (fun n Q q hq => by cases hq)
set_option maxRecDepth 1000000 in
theorem q_106 : T_106 = (pT M_106).map (mkM []) := rfl
theorem o_106 {θ : Nat → Int32} {L : Nat} : EOK θ L 106 E_106 := EOK.of (ml := []) rfl rfl rfl rfl q_106 (by decide +kernel) (fun n Q q hq => by cases hq)
set_option maxRecDepth 1000000 in
theorem q_107 : T_107 = (pT M_107).map (mkM []) := rfl
theorem o_107 {θ : Nat → Int32} {L : Nat} : EOK θ L 107 E_107 := EOK.of (ml := []) rfl rfl rfl rfl q_107 (by decide +kernel) (fun n Q q hq => by cases hq)
