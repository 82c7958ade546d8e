theorem okn_0 : (List.range' 0 31).all (fun m => Nat.beq m 207 || am_okn m) = true := by decide +kernel
theorem okn_1 : (List.range' 31 31).all (fun m => Nat.beq m 207 || am_okn m) = true := by decide +kernel
theorem okn_2 : (List.range' 62 31).all (fun m => Nat.beq m 207 || am_okn m) = true := by decide +kernel
theorem okn_3 : (List.range' 93 31).all (fun m => Nat.beq m 207 || am_okn m) = true := by decide +kernel
theorem okn_4 : (List.range' 124 31).all (fun m => Nat.beq m 207 || am_okn m) = true := by decide +kernel
theorem okn_5 : (List.range' 155 31).all (fun m => Nat.beq m 207 || am_okn m) = true := by decide +kernel
theorem okn_6 : (List.range' 186 31).all (fun m => Nat.beq m 207 || am_okn m) = true := by decide +kernel
theorem okn_m (m : Nat) (h : m < 217) (h2 : ¬ m = 207) : am_okn m = true := by
  have key : ∀ (q : Nat), (List.range' q 31).all (fun m => Nat.beq m 207 || am_okn m) = true → q ≤ m → m < q + 31 → am_okn m = true := fun q hq h3 h4 => by
    have := List.all_eq_true.mp hq m (List.mem_range'_1.mpr ⟨h3, h4⟩)
    rw [Bool.or_eq_true] at this
    exact this.resolve_left (fun e => h2 (Nat.eq_of_beq_eq_true e))
  by_cases h10 : m < 31
  · exact key 0 okn_0 (by omega) (by omega)
  by_cases h11 : m < 62
  · exact key 31 okn_1 (by omega) (by omega)
  by_cases h12 : m < 93
  · exact key 62 okn_2 (by omega) (by omega)
  by_cases h13 : m < 124
  · exact key 93 okn_3 (by omega) (by omega)
  by_cases h14 : m < 155
  · exact key 124 okn_4 (by omega) (by omega)
  by_cases h15 : m < 186
  · exact key 155 okn_5 (by omega) (by omega)
  by_cases h16 : m < 217
  · exact key 186 okn_6 (by omega) (by omega)
  · omega
theorem okw_0 : Cond.code (am_nm 0) (am_cd 0) (am_mx 0) (am_rt 0) ∈ am_W := am_mem_W (k := 1) (j := 87) rfl rfl
theorem okw_1 : Cond.code (am_nm 1) (am_cd 1) (am_mx 1) (am_rt 1) ∈ am_W := am_mem_W (k := 1) (j := 140) rfl rfl
theorem okw_2 : Cond.code (am_nm 2) (am_cd 2) (am_mx 2) (am_rt 2) ∈ am_W := am_mem_W (k := 4) (j := 167) rfl rfl
theorem okw_3 : Cond.code (am_nm 3) (am_cd 3) (am_mx 3) (am_rt 3) ∈ am_W := am_mem_W (k := 4) (j := 29) rfl rfl
theorem okw_4 : Cond.code (am_nm 4) (am_cd 4) (am_mx 4) (am_rt 4) ∈ am_W := am_mem_W (k := 4) (j := 32) rfl rfl
theorem okw_5 : Cond.code (am_nm 5) (am_cd 5) (am_mx 5) (am_rt 5) ∈ am_W := am_mem_W (k := 4) (j := 35) rfl rfl
theorem okw_6 : Cond.code (am_nm 6) (am_cd 6) (am_mx 6) (am_rt 6) ∈ am_W := am_mem_W (k := 4) (j := 39) rfl rfl
theorem okw_7 : Cond.code (am_nm 7) (am_cd 7) (am_mx 7) (am_rt 7) ∈ am_W := am_mem_W (k := 1) (j := 189) rfl rfl
theorem okw_8 : Cond.code (am_nm 8) (am_cd 8) (am_mx 8) (am_rt 8) ∈ am_W := am_mem_W (k := 3) (j := 87) rfl rfl
theorem okw_9 : Cond.code (am_nm 9) (am_cd 9) (am_mx 9) (am_rt 9) ∈ am_W := am_mem_W (k := 3) (j := 96) rfl rfl
theorem okw_10 : Cond.code (am_nm 10) (am_cd 10) (am_mx 10) (am_rt 10) ∈ am_W := am_mem_W (k := 3) (j := 142) rfl rfl
theorem okw_11 : Cond.code (am_nm 11) (am_cd 11) (am_mx 11) (am_rt 11) ∈ am_W := am_mem_W (k := 3) (j := 151) rfl rfl
theorem okw_12 : Cond.code (am_nm 12) (am_cd 12) (am_mx 12) (am_rt 12) ∈ am_W := am_mem_W (k := 3) (j := 130) rfl rfl
theorem okw_13 : Cond.code (am_nm 13) (am_cd 13) (am_mx 13) (am_rt 13) ∈ am_W := am_mem_W (k := 1) (j := 63) rfl rfl
theorem okw_14 : Cond.code (am_nm 14) (am_cd 14) (am_mx 14) (am_rt 14) ∈ am_W := am_mem_W (k := 2) (j := 167) rfl rfl
theorem okw_15 : Cond.code (am_nm 15) (am_cd 15) (am_mx 15) (am_rt 15) ∈ am_W := am_mem_W (k := 3) (j := 66) rfl rfl
theorem okw_16 : Cond.code (am_nm 16) (am_cd 16) (am_mx 16) (am_rt 16) ∈ am_W := am_mem_W (k := 3) (j := 21) rfl rfl
theorem okw_17 : Cond.code (am_nm 17) (am_cd 17) (am_mx 17) (am_rt 17) ∈ am_W := am_mem_W (k := 3) (j := 25) rfl rfl
theorem okw_18 : Cond.code (am_nm 18) (am_cd 18) (am_mx 18) (am_rt 18) ∈ am_W := am_mem_W (k := 3) (j := 13) rfl rfl
theorem okw_19 : Cond.code (am_nm 19) (am_cd 19) (am_mx 19) (am_rt 19) ∈ am_W := am_mem_W (k := 3) (j := 17) rfl rfl
theorem okw_20 : Cond.code (am_nm 20) (am_cd 20) (am_mx 20) (am_rt 20) ∈ am_W := am_mem_W (k := 3) (j := 29) rfl rfl
theorem okw_21 : Cond.code (am_nm 21) (am_cd 21) (am_mx 21) (am_rt 21) ∈ am_W := am_mem_W (k := 3) (j := 33) rfl rfl
theorem okw_22 : Cond.code (am_nm 22) (am_cd 22) (am_mx 22) (am_rt 22) ∈ am_W := am_mem_W (k := 3) (j := 41) rfl rfl
theorem okw_23 : Cond.code (am_nm 23) (am_cd 23) (am_mx 23) (am_rt 23) ∈ am_W := am_mem_W (k := 3) (j := 37) rfl rfl
theorem okw_24 : Cond.code (am_nm 24) (am_cd 24) (am_mx 24) (am_rt 24) ∈ am_W := am_mem_W (k := 3) (j := 44) rfl rfl
theorem okw_25 : Cond.code (am_nm 25) (am_cd 25) (am_mx 25) (am_rt 25) ∈ am_W := am_mem_W (k := 1) (j := 224) rfl rfl
theorem okw_26 : Cond.code (am_nm 26) (am_cd 26) (am_mx 26) (am_rt 26) ∈ am_W := am_mem_W (k := 3) (j := 195) rfl rfl
theorem okw_27 : Cond.code (am_nm 27) (am_cd 27) (am_mx 27) (am_rt 27) ∈ am_W := am_mem_W (k := 3) (j := 200) rfl rfl
theorem okw_28 : Cond.code (am_nm 28) (am_cd 28) (am_mx 28) (am_rt 28) ∈ am_W := am_mem_W (k := 3) (j := 207) rfl rfl
theorem okw_29 : Cond.code (am_nm 29) (am_cd 29) (am_mx 29) (am_rt 29) ∈ am_W := am_mem_W (k := 3) (j := 235) rfl rfl
theorem okw_30 : Cond.code (am_nm 30) (am_cd 30) (am_mx 30) (am_rt 30) ∈ am_W := am_mem_W (k := 3) (j := 211) rfl rfl
theorem okw_31 : Cond.code (am_nm 31) (am_cd 31) (am_mx 31) (am_rt 31) ∈ am_W := am_mem_W (k := 4) (j := 9) rfl rfl
theorem okw_32 : Cond.code (am_nm 32) (am_cd 32) (am_mx 32) (am_rt 32) ∈ am_W := am_mem_W (k := 3) (j := 216) rfl rfl
theorem okw_33 : Cond.code (am_nm 33) (am_cd 33) (am_mx 33) (am_rt 33) ∈ am_W := am_mem_W (k := 3) (j := 220) rfl rfl
theorem okw_34 : Cond.code (am_nm 34) (am_cd 34) (am_mx 34) (am_rt 34) ∈ am_W := am_mem_W (k := 3) (j := 231) rfl rfl
theorem okw_35 : Cond.code (am_nm 35) (am_cd 35) (am_mx 35) (am_rt 35) ∈ am_W := am_mem_W (k := 3) (j := 224) rfl rfl
theorem okw_36 : Cond.code (am_nm 36) (am_cd 36) (am_mx 36) (am_rt 36) ∈ am_W := am_mem_W (k := 4) (j := 75) rfl rfl
theorem okw_37 : Cond.code (am_nm 37) (am_cd 37) (am_mx 37) (am_rt 37) ∈ am_W := am_mem_W (k := 4) (j := 79) rfl rfl
theorem okw_38 : Cond.code (am_nm 38) (am_cd 38) (am_mx 38) (am_rt 38) ∈ am_W := am_mem_W (k := 4) (j := 83) rfl rfl
theorem okw_39 : Cond.code (am_nm 39) (am_cd 39) (am_mx 39) (am_rt 39) ∈ am_W := am_mem_W (k := 1) (j := 154) rfl rfl
theorem okw_40 : Cond.code (am_nm 40) (am_cd 40) (am_mx 40) (am_rt 40) ∈ am_W := am_mem_W (k := 4) (j := 134) rfl rfl
theorem okw_41 : Cond.code (am_nm 41) (am_cd 41) (am_mx 41) (am_rt 41) ∈ am_W := am_mem_W (k := 4) (j := 71) rfl rfl
theorem okw_42 : Cond.code (am_nm 42) (am_cd 42) (am_mx 42) (am_rt 42) ∈ am_W := am_mem_W (k := 4) (j := 143) rfl rfl
theorem okw_43 : Cond.code (am_nm 43) (am_cd 43) (am_mx 43) (am_rt 43) ∈ am_W := am_mem_W (k := 4) (j := 155) rfl rfl
theorem okw_44 : Cond.code (am_nm 44) (am_cd 44) (am_mx 44) (am_rt 44) ∈ am_W := am_mem_W (k := 4) (j := 147) rfl rfl
theorem okw_45 : Cond.code (am_nm 45) (am_cd 45) (am_mx 45) (am_rt 45) ∈ am_W := am_mem_W (k := 1) (j := 35) rfl rfl
theorem okw_46 : Cond.code (am_nm 46) (am_cd 46) (am_mx 46) (am_rt 46) ∈ am_W := am_mem_W (k := 2) (j := 171) rfl rfl
theorem okw_47 : Cond.code (am_nm 47) (am_cd 47) (am_mx 47) (am_rt 47) ∈ am_W := am_mem_W (k := 2) (j := 175) rfl rfl
theorem okw_48 : Cond.code (am_nm 48) (am_cd 48) (am_mx 48) (am_rt 48) ∈ am_W := am_mem_W (k := 2) (j := 185) rfl rfl
theorem okw_49 : Cond.code (am_nm 49) (am_cd 49) (am_mx 49) (am_rt 49) ∈ am_W := am_mem_W (k := 3) (j := 6) rfl rfl
theorem okw_50 : Cond.code (am_nm 50) (am_cd 50) (am_mx 50) (am_rt 50) ∈ am_W := am_mem_W (k := 2) (j := 189) rfl rfl
theorem okw_51 : Cond.code (am_nm 51) (am_cd 51) (am_mx 51) (am_rt 51) ∈ am_W := am_mem_W (k := 3) (j := 2) rfl rfl
theorem okw_52 : Cond.code (am_nm 52) (am_cd 52) (am_mx 52) (am_rt 52) ∈ am_W := am_mem_W (k := 2) (j := 178) rfl rfl
theorem okw_53 : Cond.code (am_nm 53) (am_cd 53) (am_mx 53) (am_rt 53) ∈ am_W := am_mem_W (k := 2) (j := 181) rfl rfl
theorem okw_54 : Cond.code (am_nm 54) (am_cd 54) (am_mx 54) (am_rt 54) ∈ am_W := am_mem_W (k := 3) (j := 9) rfl rfl
theorem okw_55 : Cond.code (am_nm 55) (am_cd 55) (am_mx 55) (am_rt 55) ∈ am_W := am_mem_W (k := 1) (j := 173) rfl rfl
theorem okw_56 : Cond.code (am_nm 56) (am_cd 56) (am_mx 56) (am_rt 56) ∈ am_W := am_mem_W (k := 3) (j := 91) rfl rfl
theorem okw_57 : Cond.code (am_nm 57) (am_cd 57) (am_mx 57) (am_rt 57) ∈ am_W := am_mem_W (k := 3) (j := 100) rfl rfl
theorem okw_58 : Cond.code (am_nm 58) (am_cd 58) (am_mx 58) (am_rt 58) ∈ am_W := am_mem_W (k := 3) (j := 104) rfl rfl
theorem okw_59 : Cond.code (am_nm 59) (am_cd 59) (am_mx 59) (am_rt 59) ∈ am_W := am_mem_W (k := 3) (j := 126) rfl rfl
theorem okw_60 : Cond.code (am_nm 60) (am_cd 60) (am_mx 60) (am_rt 60) ∈ am_W := am_mem_W (k := 3) (j := 134) rfl rfl
theorem okw_61 : Cond.code (am_nm 61) (am_cd 61) (am_mx 61) (am_rt 61) ∈ am_W := am_mem_W (k := 3) (j := 118) rfl rfl
theorem okw_62 : Cond.code (am_nm 62) (am_cd 62) (am_mx 62) (am_rt 62) ∈ am_W := am_mem_W (k := 3) (j := 108) rfl rfl
theorem okw_63 : Cond.code (am_nm 63) (am_cd 63) (am_mx 63) (am_rt 63) ∈ am_W := am_mem_W (k := 3) (j := 112) rfl rfl
theorem okw_64 : Cond.code (am_nm 64) (am_cd 64) (am_mx 64) (am_rt 64) ∈ am_W := am_mem_W (k := 3) (j := 115) rfl rfl
theorem okw_65 : Cond.code (am_nm 65) (am_cd 65) (am_mx 65) (am_rt 65) ∈ am_W := am_mem_W (k := 1) (j := 121) rfl rfl
theorem okw_66 : Cond.code (am_nm 66) (am_cd 66) (am_mx 66) (am_rt 66) ∈ am_W := am_mem_W (k := 1) (j := 23) rfl rfl
theorem okw_67 : Cond.code (am_nm 67) (am_cd 67) (am_mx 67) (am_rt 67) ∈ am_W := am_mem_W (k := 2) (j := 102) rfl rfl
theorem okw_68 : Cond.code (am_nm 68) (am_cd 68) (am_mx 68) (am_rt 68) ∈ am_W := am_mem_W (k := 2) (j := 106) rfl rfl
theorem okw_69 : Cond.code (am_nm 69) (am_cd 69) (am_mx 69) (am_rt 69) ∈ am_W := am_mem_W (k := 2) (j := 113) rfl rfl
theorem okw_70 : Cond.code (am_nm 70) (am_cd 70) (am_mx 70) (am_rt 70) ∈ am_W := am_mem_W (k := 2) (j := 117) rfl rfl
theorem okw_71 : Cond.code (am_nm 71) (am_cd 71) (am_mx 71) (am_rt 71) ∈ am_W := am_mem_W (k := 2) (j := 125) rfl rfl
theorem okw_72 : Cond.code (am_nm 72) (am_cd 72) (am_mx 72) (am_rt 72) ∈ am_W := am_mem_W (k := 2) (j := 132) rfl rfl
theorem okw_73 : Cond.code (am_nm 73) (am_cd 73) (am_mx 73) (am_rt 73) ∈ am_W := am_mem_W (k := 2) (j := 136) rfl rfl
theorem okw_74 : Cond.code (am_nm 74) (am_cd 74) (am_mx 74) (am_rt 74) ∈ am_W := am_mem_W (k := 2) (j := 148) rfl rfl
theorem okw_75 : Cond.code (am_nm 75) (am_cd 75) (am_mx 75) (am_rt 75) ∈ am_W := am_mem_W (k := 2) (j := 152) rfl rfl
theorem okw_76 : Cond.code (am_nm 76) (am_cd 76) (am_mx 76) (am_rt 76) ∈ am_W := am_mem_W (k := 2) (j := 144) rfl rfl
theorem okw_77 : Cond.code (am_nm 77) (am_cd 77) (am_mx 77) (am_rt 77) ∈ am_W := am_mem_W (k := 2) (j := 140) rfl rfl
theorem okw_78 : Cond.code (am_nm 78) (am_cd 78) (am_mx 78) (am_rt 78) ∈ am_W := am_mem_W (k := 2) (j := 121) rfl rfl
theorem okw_79 : Cond.code (am_nm 79) (am_cd 79) (am_mx 79) (am_rt 79) ∈ am_W := am_mem_W (k := 2) (j := 155) rfl rfl
theorem okw_80 : Cond.code (am_nm 80) (am_cd 80) (am_mx 80) (am_rt 80) ∈ am_W := am_mem_W (k := 2) (j := 128) rfl rfl
theorem okw_81 : Cond.code (am_nm 81) (am_cd 81) (am_mx 81) (am_rt 81) ∈ am_W := am_mem_W (k := 2) (j := 159) rfl rfl
theorem okw_82 : Cond.code (am_nm 82) (am_cd 82) (am_mx 82) (am_rt 82) ∈ am_W := am_mem_W (k := 2) (j := 163) rfl rfl
theorem okw_83 : Cond.code (am_nm 83) (am_cd 83) (am_mx 83) (am_rt 83) ∈ am_W := am_mem_W (k := 3) (j := 71) rfl rfl
theorem okw_84 : Cond.code (am_nm 84) (am_cd 84) (am_mx 84) (am_rt 84) ∈ am_W := am_mem_W (k := 3) (j := 75) rfl rfl
theorem okw_85 : Cond.code (am_nm 85) (am_cd 85) (am_mx 85) (am_rt 85) ∈ am_W := am_mem_W (k := 3) (j := 138) rfl rfl
theorem okw_86 : Cond.code (am_nm 86) (am_cd 86) (am_mx 86) (am_rt 86) ∈ am_W := am_mem_W (k := 3) (j := 171) rfl rfl
theorem okw_87 : Cond.code (am_nm 87) (am_cd 87) (am_mx 87) (am_rt 87) ∈ am_W := am_mem_W (k := 3) (j := 182) rfl rfl
theorem okw_88 : Cond.code (am_nm 88) (am_cd 88) (am_mx 88) (am_rt 88) ∈ am_W := am_mem_W (k := 3) (j := 239) rfl rfl
theorem okw_89 : Cond.code (am_nm 89) (am_cd 89) (am_mx 89) (am_rt 89) ∈ am_W := am_mem_W (k := 4) (j := 4) rfl rfl
theorem okw_90 : Cond.code (am_nm 90) (am_cd 90) (am_mx 90) (am_rt 90) ∈ am_W := am_mem_W (k := 4) (j := 13) rfl rfl
theorem okw_91 : Cond.code (am_nm 91) (am_cd 91) (am_mx 91) (am_rt 91) ∈ am_W := am_mem_W (k := 4) (j := 17) rfl rfl
theorem okw_92 : Cond.code (am_nm 92) (am_cd 92) (am_mx 92) (am_rt 92) ∈ am_W := am_mem_W (k := 3) (j := 79) rfl rfl
theorem okw_93 : Cond.code (am_nm 93) (am_cd 93) (am_mx 93) (am_rt 93) ∈ am_W := am_mem_W (k := 3) (j := 83) rfl rfl
theorem okw_94 : Cond.code (am_nm 94) (am_cd 94) (am_mx 94) (am_rt 94) ∈ am_W := am_mem_W (k := 3) (j := 159) rfl rfl
theorem okw_95 : Cond.code (am_nm 95) (am_cd 95) (am_mx 95) (am_rt 95) ∈ am_W := am_mem_W (k := 3) (j := 163) rfl rfl
theorem okw_96 : Cond.code (am_nm 96) (am_cd 96) (am_mx 96) (am_rt 96) ∈ am_W := am_mem_W (k := 3) (j := 167) rfl rfl
theorem okw_97 : Cond.code (am_nm 97) (am_cd 97) (am_mx 97) (am_rt 97) ∈ am_W := am_mem_W (k := 3) (j := 186) rfl rfl
theorem okw_98 : Cond.code (am_nm 98) (am_cd 98) (am_mx 98) (am_rt 98) ∈ am_W := am_mem_W (k := 3) (j := 191) rfl rfl
theorem okw_99 : Cond.code (am_nm 99) (am_cd 99) (am_mx 99) (am_rt 99) ∈ am_W := am_mem_W (k := 3) (j := 174) rfl rfl
theorem okw_100 : Cond.code (am_nm 100) (am_cd 100) (am_mx 100) (am_rt 100) ∈ am_W := am_mem_W (k := 3) (j := 178) rfl rfl
theorem okw_101 : Cond.code (am_nm 101) (am_cd 101) (am_mx 101) (am_rt 101) ∈ am_W := am_mem_W (k := 4) (j := 21) rfl rfl
theorem okw_102 : Cond.code (am_nm 102) (am_cd 102) (am_mx 102) (am_rt 102) ∈ am_W := am_mem_W (k := 4) (j := 43) rfl rfl
theorem okw_103 : Cond.code (am_nm 103) (am_cd 103) (am_mx 103) (am_rt 103) ∈ am_W := am_mem_W (k := 4) (j := 47) rfl rfl
theorem okw_104 : Cond.code (am_nm 104) (am_cd 104) (am_mx 104) (am_rt 104) ∈ am_W := am_mem_W (k := 4) (j := 25) rfl rfl
theorem okw_105 : Cond.code (am_nm 105) (am_cd 105) (am_mx 105) (am_rt 105) ∈ am_W := am_mem_W (k := 4) (j := 51) rfl rfl
theorem okw_106 : Cond.code (am_nm 106) (am_cd 106) (am_mx 106) (am_rt 106) ∈ am_W := am_mem_W (k := 4) (j := 55) rfl rfl
theorem okw_107 : Cond.code (am_nm 107) (am_cd 107) (am_mx 107) (am_rt 107) ∈ am_W := am_mem_W (k := 3) (j := 145) rfl rfl
theorem okw_108 : Cond.code (am_nm 108) (am_cd 108) (am_mx 108) (am_rt 108) ∈ am_W := am_mem_W (k := 4) (j := 60) rfl rfl
theorem okw_109 : Cond.code (am_nm 109) (am_cd 109) (am_mx 109) (am_rt 109) ∈ am_W := am_mem_W (k := 4) (j := 87) rfl rfl
theorem okw_110 : Cond.code (am_nm 110) (am_cd 110) (am_mx 110) (am_rt 110) ∈ am_W := am_mem_W (k := 4) (j := 95) rfl rfl
theorem okw_111 : Cond.code (am_nm 111) (am_cd 111) (am_mx 111) (am_rt 111) ∈ am_W := am_mem_W (k := 4) (j := 67) rfl rfl
theorem okw_112 : Cond.code (am_nm 112) (am_cd 112) (am_mx 112) (am_rt 112) ∈ am_W := am_mem_W (k := 4) (j := 91) rfl rfl
theorem okw_113 : Cond.code (am_nm 113) (am_cd 113) (am_mx 113) (am_rt 113) ∈ am_W := am_mem_W (k := 4) (j := 99) rfl rfl
theorem okw_114 : Cond.code (am_nm 114) (am_cd 114) (am_mx 114) (am_rt 114) ∈ am_W := am_mem_W (k := 4) (j := 111) rfl rfl
theorem okw_115 : Cond.code (am_nm 115) (am_cd 115) (am_mx 115) (am_rt 115) ∈ am_W := am_mem_W (k := 4) (j := 102) rfl rfl
theorem okw_116 : Cond.code (am_nm 116) (am_cd 116) (am_mx 116) (am_rt 116) ∈ am_W := am_mem_W (k := 4) (j := 106) rfl rfl
theorem okw_117 : Cond.code (am_nm 117) (am_cd 117) (am_mx 117) (am_rt 117) ∈ am_W := am_mem_W (k := 4) (j := 115) rfl rfl
theorem okw_118 : Cond.code (am_nm 118) (am_cd 118) (am_mx 118) (am_rt 118) ∈ am_W := am_mem_W (k := 4) (j := 119) rfl rfl
theorem okw_119 : Cond.code (am_nm 119) (am_cd 119) (am_mx 119) (am_rt 119) ∈ am_W := am_mem_W (k := 4) (j := 123) rfl rfl
theorem okw_120 : Cond.code (am_nm 120) (am_cd 120) (am_mx 120) (am_rt 120) ∈ am_W := am_mem_W (k := 4) (j := 127) rfl rfl
theorem okw_121 : Cond.code (am_nm 121) (am_cd 121) (am_mx 121) (am_rt 121) ∈ am_W := am_mem_W (k := 4) (j := 139) rfl rfl
theorem okw_122 : Cond.code (am_nm 122) (am_cd 122) (am_mx 122) (am_rt 122) ∈ am_W := am_mem_W (k := 4) (j := 151) rfl rfl
theorem okw_123 : Cond.code (am_nm 123) (am_cd 123) (am_mx 123) (am_rt 123) ∈ am_W := am_mem_W (k := 4) (j := 159) rfl rfl
theorem okw_124 : Cond.code (am_nm 124) (am_cd 124) (am_mx 124) (am_rt 124) ∈ am_W := am_mem_W (k := 4) (j := 163) rfl rfl
theorem okw_125 : Cond.code (am_nm 125) (am_cd 125) (am_mx 125) (am_rt 125) ∈ am_W := am_mem_W (k := 4) (j := 63) rfl rfl
theorem okw_126 : Cond.code (am_nm 126) (am_cd 126) (am_mx 126) (am_rt 126) ∈ am_W := am_mem_W (k := 4) (j := 130) rfl rfl
theorem okw_127 : Cond.code (am_nm 127) (am_cd 127) (am_mx 127) (am_rt 127) ∈ am_W := am_mem_W (k := 5) (j := 113) rfl rfl
theorem okw_128 : Cond.code (am_nm 128) (am_cd 128) (am_mx 128) (am_rt 128) ∈ am_W := am_mem_W (k := 6) (j := 22) rfl rfl
theorem okw_129 : Cond.code (am_nm 129) (am_cd 129) (am_mx 129) (am_rt 129) ∈ am_W := am_mem_W (k := 4) (j := 175) rfl rfl
theorem okw_130 : Cond.code (am_nm 130) (am_cd 130) (am_mx 130) (am_rt 130) ∈ am_W := am_mem_W (k := 4) (j := 180) rfl rfl
theorem okw_131 : Cond.code (am_nm 131) (am_cd 131) (am_mx 131) (am_rt 131) ∈ am_W := am_mem_W (k := 5) (j := 135) rfl rfl
theorem okw_132 : Cond.code (am_nm 132) (am_cd 132) (am_mx 132) (am_rt 132) ∈ am_W := am_mem_W (k := 5) (j := 117) rfl rfl
theorem okw_133 : Cond.code (am_nm 133) (am_cd 133) (am_mx 133) (am_rt 133) ∈ am_W := am_mem_W (k := 5) (j := 109) rfl rfl
theorem okw_134 : Cond.code (am_nm 134) (am_cd 134) (am_mx 134) (am_rt 134) ∈ am_W := am_mem_W (k := 5) (j := 126) rfl rfl
theorem okw_135 : Cond.code (am_nm 135) (am_cd 135) (am_mx 135) (am_rt 135) ∈ am_W := am_mem_W (k := 5) (j := 131) rfl rfl
theorem okw_136 : Cond.code (am_nm 136) (am_cd 136) (am_mx 136) (am_rt 136) ∈ am_W := am_mem_W (k := 5) (j := 139) rfl rfl
theorem okw_137 : Cond.code (am_nm 137) (am_cd 137) (am_mx 137) (am_rt 137) ∈ am_W := am_mem_W (k := 5) (j := 143) rfl rfl
theorem okw_138 : Cond.code (am_nm 138) (am_cd 138) (am_mx 138) (am_rt 138) ∈ am_W := am_mem_W (k := 5) (j := 148) rfl rfl
theorem okw_139 : Cond.code (am_nm 139) (am_cd 139) (am_mx 139) (am_rt 139) ∈ am_W := am_mem_W (k := 5) (j := 165) rfl rfl
theorem okw_140 : Cond.code (am_nm 140) (am_cd 140) (am_mx 140) (am_rt 140) ∈ am_W := am_mem_W (k := 5) (j := 161) rfl rfl
theorem okw_141 : Cond.code (am_nm 141) (am_cd 141) (am_mx 141) (am_rt 141) ∈ am_W := am_mem_W (k := 5) (j := 186) rfl rfl
theorem okw_142 : Cond.code (am_nm 142) (am_cd 142) (am_mx 142) (am_rt 142) ∈ am_W := am_mem_W (k := 5) (j := 178) rfl rfl
theorem okw_143 : Cond.code (am_nm 143) (am_cd 143) (am_mx 143) (am_rt 143) ∈ am_W := am_mem_W (k := 5) (j := 174) rfl rfl
theorem okw_144 : Cond.code (am_nm 144) (am_cd 144) (am_mx 144) (am_rt 144) ∈ am_W := am_mem_W (k := 5) (j := 218) rfl rfl
theorem okw_145 : Cond.code (am_nm 145) (am_cd 145) (am_mx 145) (am_rt 145) ∈ am_W := am_mem_W (k := 5) (j := 202) rfl rfl
theorem okw_146 : Cond.code (am_nm 146) (am_cd 146) (am_mx 146) (am_rt 146) ∈ am_W := am_mem_W (k := 5) (j := 222) rfl rfl
theorem okw_147 : Cond.code (am_nm 147) (am_cd 147) (am_mx 147) (am_rt 147) ∈ am_W := am_mem_W (k := 5) (j := 214) rfl rfl
theorem okw_148 : Cond.code (am_nm 148) (am_cd 148) (am_mx 148) (am_rt 148) ∈ am_W := am_mem_W (k := 5) (j := 210) rfl rfl
theorem okw_149 : Cond.code (am_nm 149) (am_cd 149) (am_mx 149) (am_rt 149) ∈ am_W := am_mem_W (k := 5) (j := 206) rfl rfl
theorem okw_150 : Cond.code (am_nm 150) (am_cd 150) (am_mx 150) (am_rt 150) ∈ am_W := am_mem_W (k := 5) (j := 198) rfl rfl
theorem okw_151 : Cond.code (am_nm 151) (am_cd 151) (am_mx 151) (am_rt 151) ∈ am_W := am_mem_W (k := 5) (j := 194) rfl rfl
theorem okw_152 : Cond.code (am_nm 152) (am_cd 152) (am_mx 152) (am_rt 152) ∈ am_W := am_mem_W (k := 5) (j := 190) rfl rfl
theorem okw_153 : Cond.code (am_nm 153) (am_cd 153) (am_mx 153) (am_rt 153) ∈ am_W := am_mem_W (k := 5) (j := 182) rfl rfl
theorem okw_154 : Cond.code (am_nm 154) (am_cd 154) (am_mx 154) (am_rt 154) ∈ am_W := am_mem_W (k := 5) (j := 157) rfl rfl
theorem okw_155 : Cond.code (am_nm 155) (am_cd 155) (am_mx 155) (am_rt 155) ∈ am_W := am_mem_W (k := 5) (j := 153) rfl rfl
theorem okw_156 : Cond.code (am_nm 156) (am_cd 156) (am_mx 156) (am_rt 156) ∈ am_W := am_mem_W (k := 5) (j := 228) rfl rfl
theorem okw_157 : Cond.code (am_nm 157) (am_cd 157) (am_mx 157) (am_rt 157) ∈ am_W := am_mem_W (k := 6) (j := 19) rfl rfl
theorem okw_158 : Cond.code (am_nm 158) (am_cd 158) (am_mx 158) (am_rt 158) ∈ am_W := am_mem_W (k := 6) (j := 0) rfl rfl
theorem okw_159 : Cond.code (am_nm 159) (am_cd 159) (am_mx 159) (am_rt 159) ∈ am_W := am_mem_W (k := 6) (j := 15) rfl rfl
theorem okw_160 : Cond.code (am_nm 160) (am_cd 160) (am_mx 160) (am_rt 160) ∈ am_W := am_mem_W (k := 6) (j := 12) rfl rfl
theorem okw_161 : Cond.code (am_nm 161) (am_cd 161) (am_mx 161) (am_rt 161) ∈ am_W := am_mem_W (k := 6) (j := 26) rfl rfl
theorem okw_162 : Cond.code (am_nm 162) (am_cd 162) (am_mx 162) (am_rt 162) ∈ am_W := am_mem_W (k := 6) (j := 4) rfl rfl
theorem okw_163 : Cond.code (am_nm 163) (am_cd 163) (am_mx 163) (am_rt 163) ∈ am_W := am_mem_W (k := 6) (j := 8) rfl rfl
theorem okw_164 : Cond.code (am_nm 164) (am_cd 164) (am_mx 164) (am_rt 164) ∈ am_W := am_mem_W (k := 6) (j := 42) rfl rfl
theorem okw_165 : Cond.code (am_nm 165) (am_cd 165) (am_mx 165) (am_rt 165) ∈ am_W := am_mem_W (k := 5) (j := 236) rfl rfl
theorem okw_166 : Cond.code (am_nm 166) (am_cd 166) (am_mx 166) (am_rt 166) ∈ am_W := am_mem_W (k := 5) (j := 232) rfl rfl
theorem okw_167 : Cond.code (am_nm 167) (am_cd 167) (am_mx 167) (am_rt 167) ∈ am_W := am_mem_W (k := 6) (j := 34) rfl rfl
theorem okw_168 : Cond.code (am_nm 168) (am_cd 168) (am_mx 168) (am_rt 168) ∈ am_W := am_mem_W (k := 6) (j := 38) rfl rfl
theorem okw_169 : Cond.code (am_nm 169) (am_cd 169) (am_mx 169) (am_rt 169) ∈ am_W := am_mem_W (k := 6) (j := 30) rfl rfl
theorem okw_170 : Cond.code (am_nm 170) (am_cd 170) (am_mx 170) (am_rt 170) ∈ am_W := am_mem_W (k := 6) (j := 50) rfl rfl
theorem okw_171 : Cond.code (am_nm 171) (am_cd 171) (am_mx 171) (am_rt 171) ∈ am_W := am_mem_W (k := 6) (j := 46) rfl rfl
theorem okw_172 : Cond.code (am_nm 172) (am_cd 172) (am_mx 172) (am_rt 172) ∈ am_W := am_mem_W (k := 6) (j := 59) rfl rfl
theorem okw_173 : Cond.code (am_nm 173) (am_cd 173) (am_mx 173) (am_rt 173) ∈ am_W := am_mem_W (k := 6) (j := 68) rfl rfl
theorem okw_174 : Cond.code (am_nm 174) (am_cd 174) (am_mx 174) (am_rt 174) ∈ am_W := am_mem_W (k := 6) (j := 80) rfl rfl
theorem okw_175 : Cond.code (am_nm 175) (am_cd 175) (am_mx 175) (am_rt 175) ∈ am_W := am_mem_W (k := 6) (j := 72) rfl rfl
theorem okw_176 : Cond.code (am_nm 176) (am_cd 176) (am_mx 176) (am_rt 176) ∈ am_W := am_mem_W (k := 6) (j := 76) rfl rfl
theorem okw_177 : Cond.code (am_nm 177) (am_cd 177) (am_mx 177) (am_rt 177) ∈ am_W := am_mem_W (k := 6) (j := 64) rfl rfl
theorem okw_178 : Cond.code (am_nm 178) (am_cd 178) (am_mx 178) (am_rt 178) ∈ am_W := am_mem_W (k := 6) (j := 54) rfl rfl
theorem okw_179 : Cond.code (am_nm 179) (am_cd 179) (am_mx 179) (am_rt 179) ∈ am_W := am_mem_W (k := 6) (j := 84) rfl rfl
theorem okw_180 : Cond.code (am_nm 180) (am_cd 180) (am_mx 180) (am_rt 180) ∈ am_W := am_mem_W (k := 6) (j := 88) rfl rfl
theorem okw_181 : Cond.code (am_nm 181) (am_cd 181) (am_mx 181) (am_rt 181) ∈ am_W := am_mem_W (k := 6) (j := 93) rfl rfl
theorem okw_182 : Cond.code (am_nm 182) (am_cd 182) (am_mx 182) (am_rt 182) ∈ am_W := am_mem_W (k := 6) (j := 114) rfl rfl
theorem okw_183 : Cond.code (am_nm 183) (am_cd 183) (am_mx 183) (am_rt 183) ∈ am_W := am_mem_W (k := 6) (j := 110) rfl rfl
theorem okw_184 : Cond.code (am_nm 184) (am_cd 184) (am_mx 184) (am_rt 184) ∈ am_W := am_mem_W (k := 6) (j := 106) rfl rfl
theorem okw_185 : Cond.code (am_nm 185) (am_cd 185) (am_mx 185) (am_rt 185) ∈ am_W := am_mem_W (k := 6) (j := 102) rfl rfl
theorem okw_186 : Cond.code (am_nm 186) (am_cd 186) (am_mx 186) (am_rt 186) ∈ am_W := am_mem_W (k := 6) (j := 97) rfl rfl
theorem okw_187 : Cond.code (am_nm 187) (am_cd 187) (am_mx 187) (am_rt 187) ∈ am_W := am_mem_W (k := 6) (j := 118) rfl rfl
theorem okw_188 : Cond.code (am_nm 188) (am_cd 188) (am_mx 188) (am_rt 188) ∈ am_W := am_mem_W (k := 6) (j := 122) rfl rfl
theorem okw_189 : Cond.code (am_nm 189) (am_cd 189) (am_mx 189) (am_rt 189) ∈ am_W := am_mem_W (k := 6) (j := 126) rfl rfl
theorem okw_190 : Cond.code (am_nm 190) (am_cd 190) (am_mx 190) (am_rt 190) ∈ am_W := am_mem_W (k := 6) (j := 137) rfl rfl
theorem okw_191 : Cond.code (am_nm 191) (am_cd 191) (am_mx 191) (am_rt 191) ∈ am_W := am_mem_W (k := 6) (j := 130) rfl rfl
theorem okw_192 : Cond.code (am_nm 192) (am_cd 192) (am_mx 192) (am_rt 192) ∈ am_W := am_mem_W (k := 6) (j := 141) rfl rfl
theorem okw_193 : Cond.code (am_nm 193) (am_cd 193) (am_mx 193) (am_rt 193) ∈ am_W := am_mem_W (k := 6) (j := 145) rfl rfl
theorem okw_194 : Cond.code (am_nm 194) (am_cd 194) (am_mx 194) (am_rt 194) ∈ am_W := am_mem_W (k := 6) (j := 154) rfl rfl
theorem okw_195 : Cond.code (am_nm 195) (am_cd 195) (am_mx 195) (am_rt 195) ∈ am_W := am_mem_W (k := 6) (j := 149) rfl rfl
theorem okw_196 : Cond.code (am_nm 196) (am_cd 196) (am_mx 196) (am_rt 196) ∈ am_W := am_mem_W (k := 6) (j := 159) rfl rfl
theorem okw_197 : Cond.code (am_nm 197) (am_cd 197) (am_mx 197) (am_rt 197) ∈ am_W := am_mem_W (k := 6) (j := 163) rfl rfl
theorem okw_198 : Cond.code (am_nm 198) (am_cd 198) (am_mx 198) (am_rt 198) ∈ am_W := am_mem_W (k := 6) (j := 167) rfl rfl
theorem okw_199 : Cond.code (am_nm 199) (am_cd 199) (am_mx 199) (am_rt 199) ∈ am_W := am_mem_W (k := 6) (j := 171) rfl rfl
theorem okw_200 : Cond.code (am_nm 200) (am_cd 200) (am_mx 200) (am_rt 200) ∈ am_W := am_mem_W (k := 6) (j := 133) rfl rfl
theorem okw_201 : Cond.code (am_nm 201) (am_cd 201) (am_mx 201) (am_rt 201) ∈ am_W := am_mem_W (k := 6) (j := 175) rfl rfl
theorem okw_202 : Cond.code (am_nm 202) (am_cd 202) (am_mx 202) (am_rt 202) ∈ am_W := am_mem_W (k := 6) (j := 179) rfl rfl
theorem okw_203 : Cond.code (am_nm 203) (am_cd 203) (am_mx 203) (am_rt 203) ∈ am_W := am_mem_W (k := 6) (j := 183) rfl rfl
theorem okw_204 : Cond.code (am_nm 204) (am_cd 204) (am_mx 204) (am_rt 204) ∈ am_W := am_mem_W (k := 6) (j := 187) rfl rfl
theorem okw_205 : Cond.code (am_nm 205) (am_cd 205) (am_mx 205) (am_rt 205) ∈ am_W := am_mem_W (k := 6) (j := 195) rfl rfl
theorem okw_206 : Cond.code (am_nm 206) (am_cd 206) (am_mx 206) (am_rt 206) ∈ am_W := am_mem_W (k := 6) (j := 192) rfl rfl
theorem okw_208 : Cond.code (am_nm 208) (am_cd 208) (am_mx 208) (am_rt 208) ∈ am_W := am_mem_W (k := 2) (j := 194) rfl rfl
theorem okw_209 : Cond.code (am_nm 209) (am_cd 209) (am_mx 209) (am_rt 209) ∈ am_W := am_mem_W (k := 2) (j := 204) rfl rfl
theorem okw_210 : Cond.code (am_nm 210) (am_cd 210) (am_mx 210) (am_rt 210) ∈ am_W := am_mem_W (k := 2) (j := 198) rfl rfl
theorem okw_211 : Cond.code (am_nm 211) (am_cd 211) (am_mx 211) (am_rt 211) ∈ am_W := am_mem_W (k := 2) (j := 208) rfl rfl
theorem okw_212 : Cond.code (am_nm 212) (am_cd 212) (am_mx 212) (am_rt 212) ∈ am_W := am_mem_W (k := 2) (j := 214) rfl rfl
theorem okw_213 : Cond.code (am_nm 213) (am_cd 213) (am_mx 213) (am_rt 213) ∈ am_W := am_mem_W (k := 2) (j := 211) rfl rfl
theorem okw_214 : Cond.code (am_nm 214) (am_cd 214) (am_mx 214) (am_rt 214) ∈ am_W := am_mem_W (k := 2) (j := 109) rfl rfl
theorem okw_215 : Cond.code (am_nm 215) (am_cd 215) (am_mx 215) (am_rt 215) ∈ am_W := am_mem_W (k := 3) (j := 47) rfl rfl
theorem okw_216 : Cond.code (am_nm 216) (am_cd 216) (am_mx 216) (am_rt 216) ∈ am_W := am_mem_W (k := 2) (j := 219) rfl rfl
def okw_l : List Nat := [0, 1, 2, 3, 4, 5, 6, 7, 8, 9, 10, 11, 12, 13, 14, 15, 16, 17, 18, 19, 20, 21, 22, 23, 24, 25, 26, 27, 28, 29, 30, 31, 32, 33, 34, 35, 36, 37, 38, 39, 40, 41, 42, 43, 44, 45, 46, 47, 48, 49, 50, 51, 52, 53, 54, 55, 56, 57, 58, 59, 60, 61, 62, 63, 64, 65, 66, 67, 68, 69, 70, 71, 72, 73, 74, 75, 76, 77, 78, 79, 80, 81, 82, 83, 84, 85, 86, 87, 88, 89, 90, 91, 92, 93, 94, 95, 96, 97, 98, 99, 100, 101, 102, 103, 104, 105, 106, 107, 108, 109, 110, 111, 112, 113, 114, 115, 116, 117, 118, 119, 120, 121, 122, 123, 124, 125, 126, 127, 128, 129, 130, 131, 132, 133, 134, 135, 136, 137, 138, 139, 140, 141, 142, 143, 144, 145, 146, 147, 148, 149, 150, 151, 152, 153, 154, 155, 156, 157, 158, 159, 160, 161, 162, 163, 164, 165, 166, 167, 168, 169, 170, 171, 172, 173, 174, 175, 176, 177, 178, 179, 180, 181, 182, 183, 184, 185, 186, 187, 188, 189, 190, 191, 192, 193, 194, 195, 196, 197, 198, 199, 200, 201, 202, 203, 204, 205, 206, 208, 209, 210, 211, 212, 213, 214, 215, 216]
set_option maxRecDepth 100000 in
theorem okw_a : ∀ m ∈ okw_l, Cond.code (am_nm m) (am_cd m) (am_mx m) (am_rt m) ∈ am_W := List.forall_mem_cons.mpr ⟨okw_0, List.forall_mem_cons.mpr ⟨okw_1, List.forall_mem_cons.mpr ⟨okw_2, List.forall_mem_cons.mpr ⟨okw_3, List.forall_mem_cons.mpr ⟨okw_4, List.forall_mem_cons.mpr ⟨okw_5, List.forall_mem_cons.mpr ⟨okw_6, List.forall_mem_cons.mpr ⟨okw_7, List.forall_mem_cons.mpr ⟨okw_8, List.forall_mem_cons.mpr ⟨okw_9, List.forall_mem_cons.mpr ⟨okw_10, List.forall_mem_cons.mpr ⟨okw_11, List.forall_mem_cons.mpr ⟨okw_12, List.forall_mem_cons.mpr ⟨okw_13, List.forall_mem_cons.mpr ⟨okw_14, List.forall_mem_cons.mpr ⟨okw_15, List.forall_mem_cons.mpr ⟨okw_16, List.forall_mem_cons.mpr ⟨okw_17, List.forall_mem_cons.mpr ⟨okw_18, List.forall_mem_cons.mpr ⟨okw_19, List.forall_mem_cons.mpr ⟨okw_20, List.forall_mem_cons.mpr ⟨okw_21, List.forall_mem_cons.mpr ⟨okw_22, List.forall_mem_cons.mpr ⟨okw_23, List.forall_mem_cons.mpr ⟨okw_24, List.forall_mem_cons.mpr ⟨okw_25, List.forall_mem_cons.mpr ⟨okw_26, List.forall_mem_cons.mpr ⟨okw_27, List.forall_mem_cons.mpr ⟨okw_28, List.forall_mem_cons.mpr ⟨okw_29, List.forall_mem_cons.mpr ⟨okw_30, List.forall_mem_cons.mpr ⟨okw_31, List.forall_mem_cons.mpr ⟨okw_32, List.forall_mem_cons.mpr ⟨okw_33, List.forall_mem_cons.mpr ⟨okw_34, List.forall_mem_cons.mpr ⟨okw_35, List.forall_mem_cons.mpr ⟨okw_36, List.forall_mem_cons.mpr ⟨okw_37, List.forall_mem_cons.mpr ⟨okw_38, List.forall_mem_cons.mpr ⟨okw_39, List.forall_mem_cons.mpr ⟨okw_40, List.forall_mem_cons.mpr ⟨okw_41, List.forall_mem_cons.mpr ⟨okw_42, List.forall_mem_cons.mpr ⟨okw_43, List.forall_mem_cons.mpr ⟨okw_44, List.forall_mem_cons.mpr ⟨okw_45, List.forall_mem_cons.mpr ⟨okw_46, List.forall_mem_cons.mpr ⟨okw_47, List.forall_mem_cons.mpr ⟨okw_48, List.forall_mem_cons.mpr ⟨okw_49, List.forall_mem_cons.mpr ⟨okw_50, List.forall_mem_cons.mpr ⟨okw_51, List.forall_mem_cons.mpr ⟨okw_52, List.forall_mem_cons.mpr ⟨okw_53, List.forall_mem_cons.mpr ⟨okw_54, List.forall_mem_cons.mpr ⟨okw_55, List.forall_mem_cons.mpr ⟨okw_56, List.forall_mem_cons.mpr ⟨okw_57, List.forall_mem_cons.mpr ⟨okw_58, List.forall_mem_cons.mpr ⟨okw_59, List.forall_mem_cons.mpr ⟨okw_60, List.forall_mem_cons.mpr ⟨okw_61, List.forall_mem_cons.mpr ⟨okw_62, List.forall_mem_cons.mpr ⟨okw_63, List.forall_mem_cons.mpr ⟨okw_64, List.forall_mem_cons.mpr ⟨okw_65, List.forall_mem_cons.mpr ⟨okw_66, List.forall_mem_cons.mpr ⟨okw_67, List.forall_mem_cons.mpr ⟨okw_68, List.forall_mem_cons.mpr ⟨okw_69, List.forall_mem_cons.mpr ⟨okw_70, List.forall_mem_cons.mpr ⟨okw_71, List.forall_mem_cons.mpr ⟨okw_72, List.forall_mem_cons.mpr ⟨okw_73, List.forall_mem_cons.mpr ⟨okw_74, List.forall_mem_cons.mpr ⟨okw_75, List.forall_mem_cons.mpr ⟨okw_76, List.forall_mem_cons.mpr ⟨okw_77, List.forall_mem_cons.mpr ⟨okw_78, List.forall_mem_cons.mpr ⟨okw_79, List.forall_mem_cons.mpr ⟨okw_80, List.forall_mem_cons.mpr ⟨okw_81, List.forall_mem_cons.mpr ⟨okw_82, List.forall_mem_cons.mpr ⟨okw_83, List.forall_mem_cons.mpr ⟨okw_84, List.forall_mem_cons.mpr ⟨okw_85, List.forall_mem_cons.mpr ⟨okw_86, List.forall_mem_cons.mpr ⟨okw_87, List.forall_mem_cons.mpr ⟨okw_88, List.forall_mem_cons.mpr ⟨okw_89, List.forall_mem_cons.mpr ⟨okw_90, List.forall_mem_cons.mpr ⟨okw_91, List.forall_mem_cons.mpr ⟨okw_92, List.forall_mem_cons.mpr ⟨okw_93, List.forall_mem_cons.mpr ⟨okw_94, List.forall_mem_cons.mpr ⟨okw_95, List.forall_mem_cons.mpr ⟨okw_96, List.forall_mem_cons.mpr ⟨okw_97, List.forall_mem_cons.mpr ⟨okw_98, List.forall_mem_cons.mpr ⟨okw_99, List.forall_mem_cons.mpr ⟨okw_100, List.forall_mem_cons.mpr ⟨okw_101, List.forall_mem_cons.mpr ⟨okw_102, List.forall_mem_cons.mpr ⟨okw_103, List.forall_mem_cons.mpr ⟨okw_104, List.forall_mem_cons.mpr ⟨okw_105, List.forall_mem_cons.mpr ⟨okw_106, List.forall_mem_cons.mpr ⟨okw_107, List.forall_mem_cons.mpr ⟨okw_108, List.forall_mem_cons.mpr ⟨okw_109, List.forall_mem_cons.mpr ⟨okw_110, List.forall_mem_cons.mpr ⟨okw_111, List.forall_mem_cons.mpr ⟨okw_112, List.forall_mem_cons.mpr ⟨okw_113, List.forall_mem_cons.mpr ⟨okw_114, List.forall_mem_cons.mpr ⟨okw_115, List.forall_mem_cons.mpr ⟨okw_116, List.forall_mem_cons.mpr ⟨okw_117, List.forall_mem_cons.mpr ⟨okw_118, List.forall_mem_cons.mpr ⟨okw_119, List.forall_mem_cons.mpr ⟨okw_120, List.forall_mem_cons.mpr ⟨okw_121, List.forall_mem_cons.mpr ⟨okw_122, List.forall_mem_cons.mpr ⟨okw_123, List.forall_mem_cons.mpr ⟨okw_124, List.forall_mem_cons.mpr ⟨okw_125, List.forall_mem_cons.mpr ⟨okw_126, List.forall_mem_cons.mpr ⟨okw_127, List.forall_mem_cons.mpr ⟨okw_128, List.forall_mem_cons.mpr ⟨okw_129, List.forall_mem_cons.mpr ⟨okw_130, List.forall_mem_cons.mpr ⟨okw_131, List.forall_mem_cons.mpr ⟨okw_132, List.forall_mem_cons.mpr ⟨okw_133, List.forall_mem_cons.mpr ⟨okw_134, List.forall_mem_cons.mpr ⟨okw_135, List.forall_mem_cons.mpr ⟨okw_136, List.forall_mem_cons.mpr ⟨okw_137, List.forall_mem_cons.mpr ⟨okw_138, List.forall_mem_cons.mpr ⟨okw_139, List.forall_mem_cons.mpr ⟨okw_140, List.forall_mem_cons.mpr ⟨okw_141, List.forall_mem_cons.mpr ⟨okw_142, List.forall_mem_cons.mpr ⟨okw_143, List.forall_mem_cons.mpr ⟨okw_144, List.forall_mem_cons.mpr ⟨okw_145, List.forall_mem_cons.mpr ⟨okw_146, List.forall_mem_cons.mpr ⟨okw_147, List.forall_mem_cons.mpr ⟨okw_148, List.forall_mem_cons.mpr ⟨okw_149, List.forall_mem_cons.mpr ⟨okw_150, List.forall_mem_cons.mpr ⟨okw_151, List.forall_mem_cons.mpr ⟨okw_152, List.forall_mem_cons.mpr ⟨okw_153, List.forall_mem_cons.mpr ⟨okw_154, List.forall_mem_cons.mpr ⟨okw_155, List.forall_mem_cons.mpr ⟨okw_156, List.forall_mem_cons.mpr ⟨okw_157, List.forall_mem_cons.mpr ⟨okw_158, List.forall_mem_cons.mpr ⟨okw_159, List.forall_mem_cons.mpr ⟨okw_160, List.forall_mem_cons.mpr ⟨okw_161, List.forall_mem_cons.mpr ⟨okw_162, List.forall_mem_cons.mpr ⟨okw_163, List.forall_mem_cons.mpr ⟨okw_164, List.forall_mem_cons.mpr ⟨okw_165, List.forall_mem_cons.mpr ⟨okw_166, List.forall_mem_cons.mpr ⟨okw_167, List.forall_mem_cons.mpr ⟨okw_168, List.forall_mem_cons.mpr ⟨okw_169, List.forall_mem_cons.mpr ⟨okw_170, List.forall_mem_cons.mpr ⟨okw_171, List.forall_mem_cons.mpr ⟨okw_172, List.forall_mem_cons.mpr ⟨okw_173, List.forall_mem_cons.mpr ⟨okw_174, List.forall_mem_cons.mpr ⟨okw_175, List.forall_mem_cons.mpr ⟨okw_176, List.forall_mem_cons.mpr ⟨okw_177, List.forall_mem_cons.mpr ⟨okw_178, List.forall_mem_cons.mpr ⟨okw_179, List.forall_mem_cons.mpr ⟨okw_180, List.forall_mem_cons.mpr ⟨okw_181, List.forall_mem_cons.mpr ⟨okw_182, List.forall_mem_cons.mpr ⟨okw_183, List.forall_mem_cons.mpr ⟨okw_184, List.forall_mem_cons.mpr ⟨okw_185, List.forall_mem_cons.mpr ⟨okw_186, List.forall_mem_cons.mpr ⟨okw_187, List.forall_mem_cons.mpr ⟨okw_188, List.forall_mem_cons.mpr ⟨okw_189, List.forall_mem_cons.mpr ⟨okw_190, List.forall_mem_cons.mpr ⟨okw_191, List.forall_mem_cons.mpr ⟨okw_192, List.forall_mem_cons.mpr ⟨okw_193, List.forall_mem_cons.mpr ⟨okw_194, List.forall_mem_cons.mpr ⟨okw_195, List.forall_mem_cons.mpr ⟨okw_196, List.forall_mem_cons.mpr ⟨okw_197, List.forall_mem_cons.mpr ⟨okw_198, List.forall_mem_cons.mpr ⟨okw_199, List.forall_mem_cons.mpr ⟨okw_200, List.forall_mem_cons.mpr ⟨okw_201, List.forall_mem_cons.mpr ⟨okw_202, List.forall_mem_cons.mpr ⟨okw_203, List.forall_mem_cons.mpr ⟨okw_204, List.forall_mem_cons.mpr ⟨okw_205, List.forall_mem_cons.mpr ⟨okw_206, List.forall_mem_cons.mpr ⟨okw_208, List.forall_mem_cons.mpr ⟨okw_209, List.forall_mem_cons.mpr ⟨okw_210, List.forall_mem_cons.mpr ⟨okw_211, List.forall_mem_cons.mpr ⟨okw_212, List.forall_mem_cons.mpr ⟨okw_213, List.forall_mem_cons.mpr ⟨okw_214, List.forall_mem_cons.mpr ⟨okw_215, List.forall_mem_cons.mpr ⟨okw_216, fun _ h => absurd h List.not_mem_nil⟩⟩⟩⟩⟩⟩⟩⟩⟩⟩⟩⟩⟩⟩⟩⟩⟩⟩⟩⟩⟩⟩⟩⟩⟩⟩⟩⟩⟩⟩⟩⟩⟩⟩⟩⟩⟩⟩⟩⟩⟩⟩⟩⟩⟩⟩⟩⟩⟩⟩⟩⟩⟩⟩⟩⟩⟩⟩⟩⟩⟩⟩⟩⟩⟩⟩⟩⟩⟩⟩⟩⟩⟩⟩⟩⟩⟩⟩⟩⟩⟩⟩⟩⟩⟩⟩⟩⟩⟩⟩⟩⟩⟩⟩⟩⟩⟩⟩⟩⟩⟩⟩⟩⟩⟩⟩⟩⟩⟩⟩⟩⟩⟩⟩⟩⟩⟩⟩⟩⟩⟩⟩⟩⟩⟩⟩⟩⟩⟩⟩⟩⟩⟩⟩⟩⟩⟩⟩⟩⟩⟩⟩⟩⟩⟩⟩⟩⟩⟩⟩⟩⟩⟩⟩⟩⟩⟩⟩⟩⟩⟩⟩⟩⟩⟩⟩⟩⟩⟩⟩⟩⟩⟩⟩⟩⟩⟩⟩⟩⟩⟩⟩⟩⟩⟩⟩⟩⟩⟩⟩⟩⟩⟩⟩⟩⟩⟩⟩⟩⟩⟩⟩⟩⟩⟩⟩⟩⟩⟩⟩⟩⟩⟩⟩⟩⟩
theorem okw_c : (List.range 217).all (fun m => Nat.beq m 207 || decide (m ∈ okw_l)) = true := by decide +kernel
theorem okw_m (m : Nat) (h : m < 217) (h2 : ¬ m = 207) : Cond.code (am_nm m) (am_cd m) (am_mx m) (am_rt m) ∈ am_W := by
  have := List.all_eq_true.mp okw_c m (List.mem_range.mpr h)
  rw [Bool.or_eq_true] at this
  exact okw_a m (of_decide_eq_true (this.resolve_left (fun e => h2 (Nat.eq_of_beq_eq_true e))))
