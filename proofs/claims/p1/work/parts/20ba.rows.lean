/-! laid by wip/p1/gen7.py -/
set_option maxRecDepth 1000000 in
theorem q_0 : T_0 = (pT M_0).map (mkM []) := rfl
theorem o_0 {θ : Nat → Int32} {L : Nat} : EOK θ L 0 E_0 := EOK.of (ml := []) rfl rfl rfl rfl q_0 (by decide +kernel) (fun n Q q hq => by cases hq)
set_option maxRecDepth 1000000 in
theorem q_1 : T_1 = (pT M_1).map (mkM []) := rfl
theorem o_1 {θ : Nat → Int32} {L : Nat} : EOK θ L 1 E_1 := EOK.of (ml := []) rfl rfl rfl rfl q_1 (by decide +kernel) (fun n Q q hq => by cases hq)
set_option maxRecDepth 1000000 in
theorem q_2 : T_2 = (pT M_2).map (mkM []) := rfl
theorem o_2 {θ : Nat → Int32} {L : Nat} : EOK θ L 2 E_2 := EOK.of (ml := []) rfl rfl rfl rfl q_2 (by decide +kernel) (fun n Q q hq => by cases hq)
set_option maxRecDepth 1000000 in
theorem q_3 : T_3 = (pT M_3).map (mkM []) := rfl
theorem o_3 {θ : Nat → Int32} {L : Nat} : EOK θ L 3 E_3 := EOK.of (ml := []) rfl rfl rfl rfl q_3 (by decide +kernel) (fun n Q q hq => by cases hq)
set_option maxRecDepth 1000000 in
theorem q_4 : T_4 = (pT M_4).map (mkM []) := rfl
theorem o_4 {θ : Nat → Int32} {L : Nat} : EOK θ L 4 E_4 := EOK.of (ml := []) rfl rfl rfl rfl q_4 (by decide +kernel) (fun n Q q hq => by cases hq)
set_option maxRecDepth 1000000 in
theorem q_5 : T_5 = (pT M_5).map (mkM []) := rfl
theorem o_5 {θ : Nat → Int32} {L : Nat} : EOK θ L 5 E_5 := EOK.of (ml := []) rfl rfl rfl rfl q_5 (by decide +kernel) (fun n Q q hq => by cases hq)
set_option maxRecDepth 1000000 in
theorem q_6 : T_6 = (pT M_6).map (mkM []) := rfl
theorem o_6 {θ : Nat → Int32} {L : Nat} : EOK θ L 6 E_6 := EOK.of (ml := []) rfl rfl rfl rfl q_6 (by decide +kernel) (fun n Q q hq => by cases hq)
set_option maxRecDepth 1000000 in
theorem q_7 : T_7 = (pT M_7).map (mkM []) := rfl
theorem o_7 {θ : Nat → Int32} {L : Nat} : EOK θ L 7 E_7 := EOK.of (ml := []) rfl rfl rfl rfl q_7 (by decide +kernel) (fun n Q q hq => by cases hq)
set_option maxRecDepth 1000000 in
theorem q_8 : T_8 = (pT M_8).map (mkM []) := rfl
theorem o_8 {θ : Nat → Int32} {L : Nat} : EOK θ L 8 E_8 := EOK.of (ml := []) rfl rfl rfl rfl q_8 (by decide +kernel) (fun n Q q hq => by cases hq)
set_option maxRecDepth 1000000 in
theorem q_9 : T_9 = (pT M_9).map (mkM []) := rfl
theorem o_9 {θ : Nat → Int32} {L : Nat} : EOK θ L 9 E_9 := EOK.of (ml := []) rfl rfl rfl rfl q_9 (by decide +kernel) (fun n Q q hq => by cases hq)
set_option maxRecDepth 1000000 in
theorem q_10 : T_10 = (pT M_10).map (mkM []) := rfl
theorem o_10 {θ : Nat → Int32} {L : Nat} : EOK θ L 10 E_10 := EOK.of (ml := []) rfl rfl rfl rfl q_10 (by decide +kernel) (fun n Q q hq => by cases hq)
set_option maxRecDepth 1000000 in
theorem q_11 : T_11 = (pT M_11).map (mkM []) := rfl
theorem o_11 {θ : Nat → Int32} {L : Nat} : EOK θ L 11 E_11 := EOK.of (ml := []) rfl rfl rfl rfl q_11 (by decide +kernel) (fun n Q q hq => by cases hq)
set_option maxRecDepth 1000000 in
theorem q_12 : T_12 = (pT M_12).map (mkM []) := rfl
theorem o_12 {θ : Nat → Int32} {L : Nat} : EOK θ L 12 E_12 := EOK.of (ml := []) rfl rfl rfl rfl q_12 (by decide +kernel) (fun n Q q hq => by cases hq)
set_option maxRecDepth 1000000 in
theorem q_17 : T_17 = (pT M_17).map (mkM []) := rfl
theorem o_17 {θ : Nat → Int32} {L : Nat} : EOK θ L 17 E_17 := EOK.of (ml := []) rfl rfl rfl rfl q_17 (by decide +kernel) (fun n Q q hq => by cases hq)
set_option maxRecDepth 1000000 in
theorem q_26 : T_26 = (pT M_26).map (mkM []) := rfl
theorem o_26 {θ : Nat → Int32} {L : Nat} : EOK θ L 26 E_26 := EOK.of (ml := []) rfl rfl rfl rfl q_26 (by decide +kernel) (fun n Q q hq => by cases hq)
set_option maxRecDepth 1000000 in
theorem q_29 : T_29 = (pT M_29).map (mkM []) := rfl
theorem o_29 {θ : Nat → Int32} {L : Nat} : EOK θ L 29 E_29 := EOK.of (ml := []) rfl rfl rfl rfl q_29 (by decide +kernel) (fun n Q q hq => by cases hq)
set_option maxRecDepth 1000000 in
theorem q_30 : T_30 = (pT M_30).map (mkM []) := rfl
theorem o_30 {θ : Nat → Int32} {L : Nat} : EOK θ L 30 E_30 := EOK.of (ml := []) rfl rfl rfl rfl q_30 (by decide +kernel) (fun n Q q hq => by cases hq)
set_option maxRecDepth 1000000 in
theorem q_31 : T_31 = (pT M_31).map (mkM []) := rfl
theorem o_31 {θ : Nat → Int32} {L : Nat} : EOK θ L 31 E_31 := EOK.of (ml := []) rfl rfl rfl rfl q_31 (by decide +kernel) (fun n Q q hq => by cases hq)
set_option maxRecDepth 1000000 in
theorem q_32 : T_32 = (pT M_32).map (mkM []) := rfl
theorem o_32 {θ : Nat → Int32} {L : Nat} : EOK θ L 32 E_32 := EOK.of (ml := []) rfl rfl rfl rfl q_32 (by decide +kernel) (fun n Q q hq => by cases hq)
set_option maxRecDepth 1000000 in
theorem q_33 : T_33 = (pT M_33).map (mkM []) := rfl
theorem o_33 {θ : Nat → Int32} {L : Nat} : EOK θ L 33 E_33 := EOK.of (ml := []) rfl rfl rfl rfl q_33 (by decide +kernel) (fun n Q q hq => by cases hq)
set_option maxRecDepth 1000000 in
theorem q_34 : T_34 = (pT M_34).map (mkM []) := rfl
theorem o_34 {θ : Nat → Int32} {L : Nat} : EOK θ L 34 E_34 := EOK.of (ml := []) rfl rfl rfl rfl q_34 (by decide +kernel) (fun n Q q hq => by cases hq)
set_option maxRecDepth 1000000 in
theorem q_35 : T_35 = (pT M_35).map (mkM []) := rfl
theorem o_35 {θ : Nat → Int32} {L : Nat} : EOK θ L 35 E_35 := EOK.of (ml := []) rfl rfl rfl rfl q_35 (by decide +kernel) (fun n Q q hq => by cases hq)
set_option maxRecDepth 1000000 in
theorem q_36 : T_36 = (pT M_36).map (mkM []) := rfl
theorem o_36 {θ : Nat → Int32} {L : Nat} : EOK θ L 36 E_36 := EOK.of (ml := []) rfl rfl rfl rfl q_36 (by decide +kernel) (fun n Q q hq => by cases hq)
set_option maxRecDepth 1000000 in
theorem q_40 : T_40 = (pT M_40).map (mkM []) := rfl
theorem o_40 {θ : Nat → Int32} {L : Nat} : EOK θ L 40 E_40 := EOK.of (ml := []) rfl rfl rfl rfl q_40 (by decide +kernel) (fun n Q q hq => by cases hq)
set_option maxRecDepth 1000000 in
theorem q_41 : T_41 = (pT M_41).map (mkM []) := rfl
theorem o_41 {θ : Nat → Int32} {L : Nat} : EOK θ L 41 E_41 := EOK.of (ml := []) rfl rfl rfl rfl q_41 (by decide +kernel) (fun n Q q hq => by cases hq)
set_option maxRecDepth 1000000 in
theorem q_42 : T_42 = (pT M_42).map (mkM []) := rfl
theorem o_42 {θ : Nat → Int32} {L : Nat} : EOK θ L 42 E_42 := EOK.of (ml := []) rfl rfl rfl rfl q_42 (by decide +kernel) (fun n Q q hq => by cases hq)
set_option maxRecDepth 1000000 in
theorem q_43 : T_43 = (pT M_43).map (mkM []) := rfl
theorem o_43 {θ : Nat → Int32} {L : Nat} : EOK θ L 43 E_43 := EOK.of (ml := []) rfl rfl rfl rfl q_43 (by decide +kernel) (fun n Q q hq => by cases hq)
set_option maxRecDepth 1000000 in
theorem q_44 : T_44 = (pT M_44).map (mkM []) := rfl
theorem o_44 {θ : Nat → Int32} {L : Nat} : EOK θ L 44 E_44 := EOK.of (ml := []) rfl rfl rfl rfl q_44 (by decide +kernel) (fun n Q q hq => by cases hq)
set_option maxRecDepth 1000000 in
theorem q_45 : T_45 = (pT M_45).map (mkM []) := rfl
theorem o_45 {θ : Nat → Int32} {L : Nat} : EOK θ L 45 E_45 := EOK.of (ml := []) rfl rfl rfl rfl q_45 (by decide +kernel) (fun n Q q hq => by cases hq)
set_option maxRecDepth 1000000 in
theorem q_46 : T_46 = (pT M_46).map (mkM []) := rfl
theorem o_46 {θ : Nat → Int32} {L : Nat} : EOK θ L 46 E_46 := EOK.of (ml := []) rfl rfl rfl rfl q_46 (by decide +kernel) (fun n Q q hq => by cases hq)
set_option maxRecDepth 1000000 in
theorem q_47 : T_47 = (pT M_47).map (mkM []) := rfl
theorem o_47 {θ : Nat → Int32} {L : Nat} : EOK θ L 47 E_47 := EOK.of (ml := []) rfl rfl rfl rfl q_47 (by decide +kernel) (fun n Q q hq => by cases hq)
set_option maxRecDepth 1000000 in
theorem q_48 : T_48 = (pT M_48).map (mkM []) := rfl
theorem o_48 {θ : Nat → Int32} {L : Nat} : EOK θ L 48 E_48 := EOK.of (ml := []) rfl rfl rfl rfl q_48 (by decide +kernel) (fun n Q q hq => by cases hq)
set_option maxRecDepth 1000000 in
theorem q_49 : T_49 = (pT M_49).map (mkM []) := rfl
theorem o_49 {θ : Nat → Int32} {L : Nat} : EOK θ L 49 E_49 := EOK.of (ml := []) rfl rfl rfl rfl q_49 (by decide +kernel) (fun n Q q hq => by cases hq)
set_option maxRecDepth 1000000 in
theorem q_50 : T_50 = (pT M_50).map (mkM []) := rfl
theorem o_50 {θ : Nat → Int32} {L : Nat} : EOK θ L 50 E_50 := EOK.of (ml := []) rfl rfl rfl rfl q_50 (by decide +kernel) (fun n Q q hq => by cases hq)
set_option maxRecDepth 1000000 in
theorem q_51 : T_51 = (pT M_51).map (mkM []) := rfl
theorem o_51 {θ : Nat → Int32} {L : Nat} : EOK θ L 51 E_51 := EOK.of (ml := []) rfl rfl rfl rfl q_51 (by decide +kernel) (fun n Q q hq => by cases hq)
set_option maxRecDepth 1000000 in
theorem q_52 : T_52 = (pT M_52).map (mkM []) := rfl
theorem o_52 {θ : Nat → Int32} {L : Nat} : EOK θ L 52 E_52 := EOK.of (ml := []) rfl rfl rfl rfl q_52 (by decide +kernel) (fun n Q q hq => by cases hq)
set_option maxRecDepth 1000000 in
theorem q_53 : T_53 = (pT M_53).map (mkM []) := rfl
theorem o_53 {θ : Nat → Int32} {L : Nat} : EOK θ L 53 E_53 := EOK.of (ml := []) rfl rfl rfl rfl q_53 (by decide +kernel) (fun n Q q hq => by cases hq)
set_option maxRecDepth 1000000 in
theorem q_54 : T_54 = (pT M_54).map (mkM []) := rfl
theorem o_54 {θ : Nat → Int32} {L : Nat} : EOK θ L 54 E_54 := EOK.of (ml := []) rfl rfl rfl rfl q_54 (by decide +kernel) (fun n Q q hq => by cases hq)
set_option maxRecDepth 1000000 in
theorem q_55 : T_55 = (pT M_55).map (mkM []) := rfl
theorem o_55 {θ : Nat → Int32} {L : Nat} : EOK θ L 55 E_55 := EOK.of (ml := []) rfl rfl rfl rfl q_55 (by decide +kernel) (fun n Q q hq => by cases hq)
set_option maxRecDepth 1000000 in
theorem q_56 : T_56 = (pT M_56).map (mkM []) := rfl
theorem o_56 {θ : Nat → Int32} {L : Nat} : EOK θ L 56 E_56 := EOK.of (ml := []) rfl rfl rfl rfl q_56 (by decide +kernel) (fun n Q q hq => by cases hq)
set_option maxRecDepth 1000000 in
theorem q_57 : T_57 = (pT M_57).map (mkM []) := rfl
theorem o_57 {θ : Nat → Int32} {L : Nat} : EOK θ L 57 E_57 := EOK.of (ml := []) rfl rfl rfl rfl q_57 (by decide +kernel) (fun n Q q hq => by cases hq)
