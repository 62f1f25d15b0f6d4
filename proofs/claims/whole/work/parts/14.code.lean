/-! each instruction is what the table says -/
set_option maxRecDepth 100000 in
theorem ckP_0 : nmP0.all (ck_i 0) = true := by decide +kernel
set_option maxRecDepth 100000 in
theorem ckP_1 : nmP1.all (ck_i 1) = true := by decide +kernel
set_option maxRecDepth 100000 in
theorem ckP_2 : nmP2.all (ck_i 2) = true := by decide +kernel
set_option maxRecDepth 100000 in
theorem ckP_3 : nmP3.all (ck_i 3) = true := by decide +kernel
set_option maxRecDepth 100000 in
theorem ckP_4 : nmP4.all (ck_i 4) = true := by decide +kernel
set_option maxRecDepth 100000 in
theorem ckP_5 : nmP5.all (ck_i 5) = true := by decide +kernel
set_option maxRecDepth 100000 in
theorem ckP_6 : nmP6.all (ck_i 6) = true := by decide +kernel
set_option maxRecDepth 100000 in
theorem ckP_7 : nmP7.all (ck_i 7) = true := by decide +kernel
set_option maxRecDepth 100000 in
theorem ckP_8 : nmP8.all (ck_i 8) = true := by decide +kernel
set_option maxRecDepth 100000 in
theorem ckP_9 : nmP9.all (ck_i 9) = true := by decide +kernel
set_option maxRecDepth 100000 in
theorem ckP_10 : nmP10.all (ck_i 10) = true := by decide +kernel
set_option maxRecDepth 100000 in
theorem ckP_11 : nmP11.all (ck_i 11) = true := by decide +kernel
set_option maxRecDepth 100000 in
theorem ckP_12_0 : ((nmP12.drop 0).take 40).all (ck_i 12) = true := by decide +kernel
set_option maxRecDepth 100000 in
theorem ckP_12_1 : ((nmP12.drop 40).take 40).all (ck_i 12) = true := by decide +kernel
set_option maxRecDepth 100000 in
theorem ckP_12_e : (nmP12.drop 80).all (ck_i 12) = true := by decide +kernel
set_option maxRecDepth 100000 in
theorem ckP_13 : nmP13.all (ck_i 13) = true := by decide +kernel
set_option maxRecDepth 100000 in
theorem ckP_14 : nmP14.all (ck_i 14) = true := by decide +kernel
set_option maxRecDepth 100000 in
theorem ckP_15 : nmP15.all (ck_i 15) = true := by decide +kernel
set_option maxRecDepth 100000 in
theorem ckP_16_0 : ((nmP16.drop 0).take 40).all (ck_i 16) = true := by decide +kernel
set_option maxRecDepth 100000 in
theorem ckP_16_1 : ((nmP16.drop 40).take 40).all (ck_i 16) = true := by decide +kernel
set_option maxRecDepth 100000 in
theorem ckP_16_e : (nmP16.drop 80).all (ck_i 16) = true := by decide +kernel
set_option maxRecDepth 100000 in
theorem ckP_17_0 : ((nmP17.drop 0).take 40).all (ck_i 17) = true := by decide +kernel
set_option maxRecDepth 100000 in
theorem ckP_17_1 : ((nmP17.drop 40).take 40).all (ck_i 17) = true := by decide +kernel
set_option maxRecDepth 100000 in
theorem ckP_17_e : (nmP17.drop 80).all (ck_i 17) = true := by decide +kernel
set_option maxRecDepth 100000 in
theorem ckP_18 : nmP18.all (ck_i 18) = true := by decide +kernel
set_option maxRecDepth 100000 in
theorem ckP_19_0 : ((nmP19.drop 0).take 40).all (ck_i 19) = true := by decide +kernel
set_option maxRecDepth 100000 in
theorem ckP_19_1 : ((nmP19.drop 40).take 40).all (ck_i 19) = true := by decide +kernel
set_option maxRecDepth 100000 in
theorem ckP_19_e : (nmP19.drop 80).all (ck_i 19) = true := by decide +kernel
set_option maxRecDepth 100000 in
theorem ckP_20 : nmP20.all (ck_i 20) = true := by decide +kernel
set_option maxRecDepth 100000 in
theorem ckP_21 : nmP21.all (ck_i 21) = true := by decide +kernel
set_option maxRecDepth 100000 in
theorem ckP_22 : nmP22.all (ck_i 22) = true := by decide +kernel
set_option maxRecDepth 100000 in
theorem ckP_23 : nmP23.all (ck_i 23) = true := by decide +kernel
set_option maxRecDepth 100000 in
theorem ckP_24 : nmP24.all (ck_i 24) = true := by decide +kernel
set_option maxRecDepth 100000 in
theorem ckP_25 : nmP25.all (ck_i 25) = true := by decide +kernel
set_option maxRecDepth 100000 in
theorem ckP_26 : nmP26.all (ck_i 26) = true := by decide +kernel
set_option maxRecDepth 100000 in
theorem ckP_27 : nmP27.all (ck_i 27) = true := by decide +kernel
set_option maxRecDepth 100000 in
theorem ckP_28 : nmP28.all (ck_i 28) = true := by decide +kernel
set_option maxRecDepth 100000 in
theorem ckP_29 : nmP29.all (ck_i 29) = true := by decide +kernel
set_option maxRecDepth 100000 in
theorem ckP_30 : nmP30.all (ck_i 30) = true := by decide +kernel
set_option maxRecDepth 100000 in
theorem ckP_31_0 : ((nmP31.drop 0).take 40).all (ck_i 31) = true := by decide +kernel
set_option maxRecDepth 100000 in
theorem ckP_31_1 : ((nmP31.drop 40).take 40).all (ck_i 31) = true := by decide +kernel
set_option maxRecDepth 100000 in
theorem ckP_31_2 : ((nmP31.drop 80).take 40).all (ck_i 31) = true := by decide +kernel
set_option maxRecDepth 100000 in
theorem ckP_31_e : (nmP31.drop 120).all (ck_i 31) = true := by decide +kernel
set_option maxRecDepth 100000 in
theorem ckP_32 : nmP32.all (ck_i 32) = true := by decide +kernel
set_option maxRecDepth 100000 in
theorem ckP_33 : nmP33.all (ck_i 33) = true := by decide +kernel
set_option maxRecDepth 100000 in
theorem ckP_34_0 : ((nmP34.drop 0).take 40).all (ck_i 34) = true := by decide +kernel
set_option maxRecDepth 100000 in
theorem ckP_34_1 : ((nmP34.drop 40).take 40).all (ck_i 34) = true := by decide +kernel
set_option maxRecDepth 100000 in
theorem ckP_34_e : (nmP34.drop 80).all (ck_i 34) = true := by decide +kernel
set_option maxRecDepth 100000 in
theorem ckP_35_0 : ((nmP35.drop 0).take 40).all (ck_i 35) = true := by decide +kernel
set_option maxRecDepth 100000 in
theorem ckP_35_1 : ((nmP35.drop 40).take 40).all (ck_i 35) = true := by decide +kernel
set_option maxRecDepth 100000 in
theorem ckP_35_e : (nmP35.drop 80).all (ck_i 35) = true := by decide +kernel
set_option maxRecDepth 100000 in
theorem ckP_36 : nmP36.all (ck_i 36) = true := by decide +kernel
set_option maxRecDepth 100000 in
theorem ckP_37_0 : ((nmP37.drop 0).take 40).all (ck_i 37) = true := by decide +kernel
set_option maxRecDepth 100000 in
theorem ckP_37_1 : ((nmP37.drop 40).take 40).all (ck_i 37) = true := by decide +kernel
set_option maxRecDepth 100000 in
theorem ckP_37_e : (nmP37.drop 80).all (ck_i 37) = true := by decide +kernel
set_option maxRecDepth 100000 in
theorem ckP_38_0 : ((nmP38.drop 0).take 40).all (ck_i 38) = true := by decide +kernel
set_option maxRecDepth 100000 in
theorem ckP_38_1 : ((nmP38.drop 40).take 40).all (ck_i 38) = true := by decide +kernel
set_option maxRecDepth 100000 in
theorem ckP_38_e : (nmP38.drop 80).all (ck_i 38) = true := by decide +kernel
set_option maxRecDepth 100000 in
theorem ckP_39 : nmP39.all (ck_i 39) = true := by decide +kernel
set_option maxRecDepth 100000 in
theorem ckP_40_0 : ((nmP40.drop 0).take 40).all (ck_i 40) = true := by decide +kernel
set_option maxRecDepth 100000 in
theorem ckP_40_1 : ((nmP40.drop 40).take 40).all (ck_i 40) = true := by decide +kernel
set_option maxRecDepth 100000 in
theorem ckP_40_2 : ((nmP40.drop 80).take 40).all (ck_i 40) = true := by decide +kernel
set_option maxRecDepth 100000 in
theorem ckP_40_e : (nmP40.drop 120).all (ck_i 40) = true := by decide +kernel
set_option maxRecDepth 100000 in
theorem ckP_41 : nmP41.all (ck_i 41) = true := by decide +kernel
set_option maxRecDepth 100000 in
theorem ckP_42_0 : ((nmP42.drop 0).take 40).all (ck_i 42) = true := by decide +kernel
set_option maxRecDepth 100000 in
theorem ckP_42_1 : ((nmP42.drop 40).take 40).all (ck_i 42) = true := by decide +kernel
set_option maxRecDepth 100000 in
theorem ckP_42_2 : ((nmP42.drop 80).take 40).all (ck_i 42) = true := by decide +kernel
set_option maxRecDepth 100000 in
theorem ckP_42_e : (nmP42.drop 120).all (ck_i 42) = true := by decide +kernel
set_option maxRecDepth 100000 in
theorem ckP_43 : nmP43.all (ck_i 43) = true := by decide +kernel
set_option maxRecDepth 100000 in
theorem ckP_44 : nmP44.all (ck_i 44) = true := by decide +kernel
set_option maxRecDepth 100000 in
theorem ckP_45_0 : ((nmP45.drop 0).take 40).all (ck_i 45) = true := by decide +kernel
set_option maxRecDepth 100000 in
theorem ckP_45_1 : ((nmP45.drop 40).take 40).all (ck_i 45) = true := by decide +kernel
set_option maxRecDepth 100000 in
theorem ckP_45_2 : ((nmP45.drop 80).take 40).all (ck_i 45) = true := by decide +kernel
set_option maxRecDepth 100000 in
theorem ckP_45_3 : ((nmP45.drop 120).take 40).all (ck_i 45) = true := by decide +kernel
set_option maxRecDepth 100000 in
theorem ckP_45_e : (nmP45.drop 160).all (ck_i 45) = true := by decide +kernel
set_option maxRecDepth 100000 in
theorem ckP_46_0 : ((nmP46.drop 0).take 40).all (ck_i 46) = true := by decide +kernel
set_option maxRecDepth 100000 in
theorem ckP_46_1 : ((nmP46.drop 40).take 40).all (ck_i 46) = true := by decide +kernel
set_option maxRecDepth 100000 in
theorem ckP_46_e : (nmP46.drop 80).all (ck_i 46) = true := by decide +kernel
set_option maxRecDepth 100000 in
theorem ckP_47_0 : ((nmP47.drop 0).take 40).all (ck_i 47) = true := by decide +kernel
set_option maxRecDepth 100000 in
theorem ckP_47_1 : ((nmP47.drop 40).take 40).all (ck_i 47) = true := by decide +kernel
set_option maxRecDepth 100000 in
theorem ckP_47_e : (nmP47.drop 80).all (ck_i 47) = true := by decide +kernel
set_option maxRecDepth 100000 in
theorem ckP_48_0 : ((nmP48.drop 0).take 40).all (ck_i 48) = true := by decide +kernel
set_option maxRecDepth 100000 in
theorem ckP_48_1 : ((nmP48.drop 40).take 40).all (ck_i 48) = true := by decide +kernel
set_option maxRecDepth 100000 in
theorem ckP_48_2 : ((nmP48.drop 80).take 40).all (ck_i 48) = true := by decide +kernel
set_option maxRecDepth 100000 in
theorem ckP_48_e : (nmP48.drop 120).all (ck_i 48) = true := by decide +kernel
set_option maxRecDepth 100000 in
theorem ckP_49 : nmP49.all (ck_i 49) = true := by decide +kernel
set_option maxRecDepth 100000 in
theorem ckP_50_0 : ((nmP50.drop 0).take 40).all (ck_i 50) = true := by decide +kernel
set_option maxRecDepth 100000 in
theorem ckP_50_1 : ((nmP50.drop 40).take 40).all (ck_i 50) = true := by decide +kernel
set_option maxRecDepth 100000 in
theorem ckP_50_e : (nmP50.drop 80).all (ck_i 50) = true := by decide +kernel
set_option maxRecDepth 100000 in
theorem ckP_51_0 : ((nmP51.drop 0).take 40).all (ck_i 51) = true := by decide +kernel
set_option maxRecDepth 100000 in
theorem ckP_51_1 : ((nmP51.drop 40).take 40).all (ck_i 51) = true := by decide +kernel
set_option maxRecDepth 100000 in
theorem ckP_51_2 : ((nmP51.drop 80).take 40).all (ck_i 51) = true := by decide +kernel
set_option maxRecDepth 100000 in
theorem ckP_51_e : (nmP51.drop 120).all (ck_i 51) = true := by decide +kernel
set_option maxRecDepth 100000 in
theorem ckP_52_0 : ((nmP52.drop 0).take 40).all (ck_i 52) = true := by decide +kernel
set_option maxRecDepth 100000 in
theorem ckP_52_1 : ((nmP52.drop 40).take 40).all (ck_i 52) = true := by decide +kernel
set_option maxRecDepth 100000 in
theorem ckP_52_e : (nmP52.drop 80).all (ck_i 52) = true := by decide +kernel
set_option maxRecDepth 100000 in
theorem ckP_53_0 : ((nmP53.drop 0).take 40).all (ck_i 53) = true := by decide +kernel
set_option maxRecDepth 100000 in
theorem ckP_53_1 : ((nmP53.drop 40).take 40).all (ck_i 53) = true := by decide +kernel
set_option maxRecDepth 100000 in
theorem ckP_53_2 : ((nmP53.drop 80).take 40).all (ck_i 53) = true := by decide +kernel
set_option maxRecDepth 100000 in
theorem ckP_53_3 : ((nmP53.drop 120).take 40).all (ck_i 53) = true := by decide +kernel
set_option maxRecDepth 100000 in
theorem ckP_53_4 : ((nmP53.drop 160).take 40).all (ck_i 53) = true := by decide +kernel
set_option maxRecDepth 100000 in
theorem ckP_53_e : (nmP53.drop 200).all (ck_i 53) = true := by decide +kernel
set_option maxRecDepth 100000 in
theorem ckP_54 : nmP54.all (ck_i 54) = true := by decide +kernel
set_option maxRecDepth 100000 in
theorem ckP_55 : nmP55.all (ck_i 55) = true := by decide +kernel
set_option maxRecDepth 100000 in
theorem ckP_56_0 : ((nmP56.drop 0).take 40).all (ck_i 56) = true := by decide +kernel
set_option maxRecDepth 100000 in
theorem ckP_56_1 : ((nmP56.drop 40).take 40).all (ck_i 56) = true := by decide +kernel
set_option maxRecDepth 100000 in
theorem ckP_56_2 : ((nmP56.drop 80).take 40).all (ck_i 56) = true := by decide +kernel
set_option maxRecDepth 100000 in
theorem ckP_56_3 : ((nmP56.drop 120).take 40).all (ck_i 56) = true := by decide +kernel
set_option maxRecDepth 100000 in
theorem ckP_56_e : (nmP56.drop 160).all (ck_i 56) = true := by decide +kernel
set_option maxRecDepth 100000 in
theorem ckP_57_0 : ((nmP57.drop 0).take 40).all (ck_i 57) = true := by decide +kernel
set_option maxRecDepth 100000 in
theorem ckP_57_1 : ((nmP57.drop 40).take 40).all (ck_i 57) = true := by decide +kernel
set_option maxRecDepth 100000 in
theorem ckP_57_2 : ((nmP57.drop 80).take 40).all (ck_i 57) = true := by decide +kernel
set_option maxRecDepth 100000 in
theorem ckP_57_3 : ((nmP57.drop 120).take 40).all (ck_i 57) = true := by decide +kernel
set_option maxRecDepth 100000 in
theorem ckP_57_4 : ((nmP57.drop 160).take 40).all (ck_i 57) = true := by decide +kernel
set_option maxRecDepth 100000 in
theorem ckP_57_5 : ((nmP57.drop 200).take 40).all (ck_i 57) = true := by decide +kernel
set_option maxRecDepth 100000 in
theorem ckP_57_e : (nmP57.drop 240).all (ck_i 57) = true := by decide +kernel
set_option maxRecDepth 100000 in
theorem ckP_58 : nmP58.all (ck_i 58) = true := by decide +kernel
set_option maxRecDepth 100000 in
theorem ckP_59 : nmP59.all (ck_i 59) = true := by decide +kernel
set_option maxRecDepth 100000 in
theorem ckP_60 : nmP60.all (ck_i 60) = true := by decide +kernel
set_option maxRecDepth 100000 in
theorem ckP_61_0 : ((nmP61.drop 0).take 40).all (ck_i 61) = true := by decide +kernel
set_option maxRecDepth 100000 in
theorem ckP_61_1 : ((nmP61.drop 40).take 40).all (ck_i 61) = true := by decide +kernel
set_option maxRecDepth 100000 in
theorem ckP_61_e : (nmP61.drop 80).all (ck_i 61) = true := by decide +kernel
set_option maxRecDepth 100000 in
theorem ckP_62_0 : ((nmP62.drop 0).take 40).all (ck_i 62) = true := by decide +kernel
set_option maxRecDepth 100000 in
theorem ckP_62_1 : ((nmP62.drop 40).take 40).all (ck_i 62) = true := by decide +kernel
set_option maxRecDepth 100000 in
theorem ckP_62_e : (nmP62.drop 80).all (ck_i 62) = true := by decide +kernel
set_option maxRecDepth 100000 in
theorem ckP_63 : nmP63.all (ck_i 63) = true := by decide +kernel
set_option maxRecDepth 100000 in
theorem ckP_64 : nmP64.all (ck_i 64) = true := by decide +kernel
set_option maxRecDepth 100000 in
theorem ckP_65 : nmP65.all (ck_i 65) = true := by decide +kernel
set_option maxRecDepth 100000 in
theorem ckP_66 : nmP66.all (ck_i 66) = true := by decide +kernel
set_option maxRecDepth 100000 in
theorem ckP_67_0 : ((nmP67.drop 0).take 40).all (ck_i 67) = true := by decide +kernel
set_option maxRecDepth 100000 in
theorem ckP_67_1 : ((nmP67.drop 40).take 40).all (ck_i 67) = true := by decide +kernel
set_option maxRecDepth 100000 in
theorem ckP_67_e : (nmP67.drop 80).all (ck_i 67) = true := by decide +kernel
set_option maxRecDepth 100000 in
theorem ckP_68 : nmP68.all (ck_i 68) = true := by decide +kernel
set_option maxRecDepth 100000 in
theorem ckP_69_0 : ((nmP69.drop 0).take 40).all (ck_i 69) = true := by decide +kernel
set_option maxRecDepth 100000 in
theorem ckP_69_1 : ((nmP69.drop 40).take 40).all (ck_i 69) = true := by decide +kernel
set_option maxRecDepth 100000 in
theorem ckP_69_2 : ((nmP69.drop 80).take 40).all (ck_i 69) = true := by decide +kernel
set_option maxRecDepth 100000 in
theorem ckP_69_3 : ((nmP69.drop 120).take 40).all (ck_i 69) = true := by decide +kernel
set_option maxRecDepth 100000 in
theorem ckP_69_e : (nmP69.drop 160).all (ck_i 69) = true := by decide +kernel
set_option maxRecDepth 100000 in
theorem ckP_70 : nmP70.all (ck_i 70) = true := by decide +kernel
set_option maxRecDepth 100000 in
theorem ckP_71_0 : ((nmP71.drop 0).take 40).all (ck_i 71) = true := by decide +kernel
set_option maxRecDepth 100000 in
theorem ckP_71_1 : ((nmP71.drop 40).take 40).all (ck_i 71) = true := by decide +kernel
set_option maxRecDepth 100000 in
theorem ckP_71_2 : ((nmP71.drop 80).take 40).all (ck_i 71) = true := by decide +kernel
set_option maxRecDepth 100000 in
theorem ckP_71_e : (nmP71.drop 120).all (ck_i 71) = true := by decide +kernel
set_option maxRecDepth 100000 in
theorem ckP_72 : nmP72.all (ck_i 72) = true := by decide +kernel
set_option maxRecDepth 100000 in
theorem ckP_73_0 : ((nmP73.drop 0).take 40).all (ck_i 73) = true := by decide +kernel
set_option maxRecDepth 100000 in
theorem ckP_73_1 : ((nmP73.drop 40).take 40).all (ck_i 73) = true := by decide +kernel
set_option maxRecDepth 100000 in
theorem ckP_73_e : (nmP73.drop 80).all (ck_i 73) = true := by decide +kernel
set_option maxRecDepth 100000 in
theorem ckP_74_0 : ((nmP74.drop 0).take 40).all (ck_i 74) = true := by decide +kernel
set_option maxRecDepth 100000 in
theorem ckP_74_1 : ((nmP74.drop 40).take 40).all (ck_i 74) = true := by decide +kernel
set_option maxRecDepth 100000 in
theorem ckP_74_e : (nmP74.drop 80).all (ck_i 74) = true := by decide +kernel
set_option maxRecDepth 100000 in
theorem ckP_75 : nmP75.all (ck_i 75) = true := by decide +kernel
set_option maxRecDepth 100000 in
theorem ckP_76 : nmP76.all (ck_i 76) = true := by decide +kernel
set_option maxRecDepth 100000 in
theorem ckP_77 : nmP77.all (ck_i 77) = true := by decide +kernel
set_option maxRecDepth 100000 in
theorem ckP_78 : nmP78.all (ck_i 78) = true := by decide +kernel
set_option maxRecDepth 100000 in
theorem ckP_79 : nmP79.all (ck_i 79) = true := by decide +kernel
set_option maxRecDepth 100000 in
theorem ckP_80_0 : ((nmP80.drop 0).take 40).all (ck_i 80) = true := by decide +kernel
set_option maxRecDepth 100000 in
theorem ckP_80_1 : ((nmP80.drop 40).take 40).all (ck_i 80) = true := by decide +kernel
set_option maxRecDepth 100000 in
theorem ckP_80_e : (nmP80.drop 80).all (ck_i 80) = true := by decide +kernel
set_option maxRecDepth 100000 in
theorem ckP_81 : nmP81.all (ck_i 81) = true := by decide +kernel
set_option maxRecDepth 100000 in
theorem ckP_82 : nmP82.all (ck_i 82) = true := by decide +kernel
set_option maxRecDepth 100000 in
theorem ckP_83 : nmP83.all (ck_i 83) = true := by decide +kernel
set_option maxRecDepth 100000 in
theorem ckP_84 : nmP84.all (ck_i 84) = true := by decide +kernel
set_option maxRecDepth 100000 in
theorem ckP_85 : nmP85.all (ck_i 85) = true := by decide +kernel
set_option maxRecDepth 100000 in
theorem ckP_86_0 : ((nmP86.drop 0).take 40).all (ck_i 86) = true := by decide +kernel
set_option maxRecDepth 100000 in
theorem ckP_86_1 : ((nmP86.drop 40).take 40).all (ck_i 86) = true := by decide +kernel
set_option maxRecDepth 100000 in
theorem ckP_86_e : (nmP86.drop 80).all (ck_i 86) = true := by decide +kernel
set_option maxRecDepth 100000 in
theorem ckP_87 : nmP87.all (ck_i 87) = true := by decide +kernel
set_option maxRecDepth 100000 in
theorem ckP_88 : nmP88.all (ck_i 88) = true := by decide +kernel
set_option maxRecDepth 100000 in
theorem ckP_89 : nmP89.all (ck_i 89) = true := by decide +kernel
set_option maxRecDepth 100000 in
theorem ckP_90 : nmP90.all (ck_i 90) = true := by decide +kernel
set_option maxRecDepth 100000 in
theorem ckP_91 : nmP91.all (ck_i 91) = true := by decide +kernel
set_option maxRecDepth 100000 in
theorem ckP_92 : nmP92.all (ck_i 92) = true := by decide +kernel
set_option maxRecDepth 100000 in
theorem ckP_93 : nmP93.all (ck_i 93) = true := by decide +kernel
set_option maxRecDepth 100000 in
theorem ckP_94 : nmP94.all (ck_i 94) = true := by decide +kernel
set_option maxRecDepth 100000 in
theorem ckP_95 : nmP95.all (ck_i 95) = true := by decide +kernel
set_option maxRecDepth 100000 in
theorem ckP_96 : nmP96.all (ck_i 96) = true := by decide +kernel
set_option maxRecDepth 100000 in
theorem ckP_97_0 : ((nmP97.drop 0).take 40).all (ck_i 97) = true := by decide +kernel
set_option maxRecDepth 100000 in
theorem ckP_97_1 : ((nmP97.drop 40).take 40).all (ck_i 97) = true := by decide +kernel
set_option maxRecDepth 100000 in
theorem ckP_97_e : (nmP97.drop 80).all (ck_i 97) = true := by decide +kernel
set_option maxRecDepth 100000 in
theorem ckP_98_0 : ((nmP98.drop 0).take 40).all (ck_i 98) = true := by decide +kernel
set_option maxRecDepth 100000 in
theorem ckP_98_1 : ((nmP98.drop 40).take 40).all (ck_i 98) = true := by decide +kernel
set_option maxRecDepth 100000 in
theorem ckP_98_2 : ((nmP98.drop 80).take 40).all (ck_i 98) = true := by decide +kernel
set_option maxRecDepth 100000 in
theorem ckP_98_3 : ((nmP98.drop 120).take 40).all (ck_i 98) = true := by decide +kernel
set_option maxRecDepth 100000 in
theorem ckP_98_e : (nmP98.drop 160).all (ck_i 98) = true := by decide +kernel
set_option maxRecDepth 100000 in
theorem ckP_99_0 : ((nmP99.drop 0).take 40).all (ck_i 99) = true := by decide +kernel
set_option maxRecDepth 100000 in
theorem ckP_99_1 : ((nmP99.drop 40).take 40).all (ck_i 99) = true := by decide +kernel
set_option maxRecDepth 100000 in
theorem ckP_99_2 : ((nmP99.drop 80).take 40).all (ck_i 99) = true := by decide +kernel
set_option maxRecDepth 100000 in
theorem ckP_99_e : (nmP99.drop 120).all (ck_i 99) = true := by decide +kernel
set_option maxRecDepth 100000 in
theorem ckP_100 : nmP100.all (ck_i 100) = true := by decide +kernel
set_option maxRecDepth 100000 in
theorem ckP_101_0 : ((nmP101.drop 0).take 40).all (ck_i 101) = true := by decide +kernel
set_option maxRecDepth 100000 in
theorem ckP_101_1 : ((nmP101.drop 40).take 40).all (ck_i 101) = true := by decide +kernel
set_option maxRecDepth 100000 in
theorem ckP_101_2 : ((nmP101.drop 80).take 40).all (ck_i 101) = true := by decide +kernel
set_option maxRecDepth 100000 in
theorem ckP_101_3 : ((nmP101.drop 120).take 40).all (ck_i 101) = true := by decide +kernel
set_option maxRecDepth 100000 in
theorem ckP_101_4 : ((nmP101.drop 160).take 40).all (ck_i 101) = true := by decide +kernel
set_option maxRecDepth 100000 in
theorem ckP_101_e : (nmP101.drop 200).all (ck_i 101) = true := by decide +kernel
set_option maxRecDepth 100000 in
theorem ckP_102 : nmP102.all (ck_i 102) = true := by decide +kernel
set_option maxRecDepth 100000 in
theorem ckP_103 : nmP103.all (ck_i 103) = true := by decide +kernel
set_option maxRecDepth 100000 in
theorem ckP_104 : nmP104.all (ck_i 104) = true := by decide +kernel
set_option maxRecDepth 100000 in
theorem ckP_105 : nmP105.all (ck_i 105) = true := by decide +kernel
set_option maxRecDepth 100000 in
theorem ckP_106 : nmP106.all (ck_i 106) = true := by decide +kernel
set_option maxRecDepth 100000 in
theorem ckP_107 : nmP107.all (ck_i 107) = true := by decide +kernel
set_option maxRecDepth 100000 in
theorem ckP_108 : nmP108.all (ck_i 108) = true := by decide +kernel
set_option maxRecDepth 100000 in
theorem ckP_109 : nmP109.all (ck_i 109) = true := by decide +kernel
set_option maxRecDepth 100000 in
theorem ckP_110 : nmP110.all (ck_i 110) = true := by decide +kernel
set_option maxRecDepth 100000 in
theorem ckP_111_0 : ((nmP111.drop 0).take 40).all (ck_i 111) = true := by decide +kernel
set_option maxRecDepth 100000 in
theorem ckP_111_1 : ((nmP111.drop 40).take 40).all (ck_i 111) = true := by decide +kernel
set_option maxRecDepth 100000 in
theorem ckP_111_e : (nmP111.drop 80).all (ck_i 111) = true := by decide +kernel
set_option maxRecDepth 100000 in
theorem ckP_112 : nmP112.all (ck_i 112) = true := by decide +kernel
set_option maxRecDepth 100000 in
theorem ckP_113 : nmP113.all (ck_i 113) = true := by decide +kernel
set_option maxRecDepth 100000 in
theorem ckP_114 : nmP114.all (ck_i 114) = true := by decide +kernel
set_option maxRecDepth 100000 in
theorem ckP_115 : nmP115.all (ck_i 115) = true := by decide +kernel
set_option maxRecDepth 100000 in
theorem ckP_116 : nmP116.all (ck_i 116) = true := by decide +kernel
set_option maxRecDepth 100000 in
theorem ckP_117 : nmP117.all (ck_i 117) = true := by decide +kernel
set_option maxRecDepth 100000 in
theorem ckP_118 : nmP118.all (ck_i 118) = true := by decide +kernel
set_option maxRecDepth 100000 in
theorem ckP_119 : nmP119.all (ck_i 119) = true := by decide +kernel
set_option maxRecDepth 100000 in
theorem ckP_120 : nmP120.all (ck_i 120) = true := by decide +kernel
set_option maxRecDepth 100000 in
theorem ckP_121_0 : ((nmP121.drop 0).take 40).all (ck_i 121) = true := by decide +kernel
set_option maxRecDepth 100000 in
theorem ckP_121_1 : ((nmP121.drop 40).take 40).all (ck_i 121) = true := by decide +kernel
set_option maxRecDepth 100000 in
theorem ckP_121_e : (nmP121.drop 80).all (ck_i 121) = true := by decide +kernel
set_option maxRecDepth 100000 in
theorem ckP_122 : nmP122.all (ck_i 122) = true := by decide +kernel
set_option maxRecDepth 100000 in
theorem ckP_123 : nmP123.all (ck_i 123) = true := by decide +kernel
set_option maxRecDepth 100000 in
theorem ckP_124 : nmP124.all (ck_i 124) = true := by decide +kernel
set_option maxRecDepth 100000 in
theorem ckP_125 : nmP125.all (ck_i 125) = true := by decide +kernel
set_option maxRecDepth 100000 in
theorem ckP_126 : nmP126.all (ck_i 126) = true := by decide +kernel
set_option maxRecDepth 100000 in
theorem ckP_127 : nmP127.all (ck_i 127) = true := by decide +kernel
set_option maxRecDepth 100000 in
theorem ckP_128 : nmP128.all (ck_i 128) = true := by decide +kernel
set_option maxRecDepth 100000 in
theorem ckP_129 : nmP129.all (ck_i 129) = true := by decide +kernel
set_option maxRecDepth 100000 in
theorem ckP_130 : nmP130.all (ck_i 130) = true := by decide +kernel
set_option maxRecDepth 100000 in
theorem ckP_131 : nmP131.all (ck_i 131) = true := by decide +kernel
set_option maxRecDepth 100000 in
theorem ckP_132 : nmP132.all (ck_i 132) = true := by decide +kernel
set_option maxRecDepth 100000 in
theorem ckP_133 : nmP133.all (ck_i 133) = true := by decide +kernel
set_option maxRecDepth 100000 in
theorem ckP_134_0 : ((nmP134.drop 0).take 40).all (ck_i 134) = true := by decide +kernel
set_option maxRecDepth 100000 in
theorem ckP_134_1 : ((nmP134.drop 40).take 40).all (ck_i 134) = true := by decide +kernel
set_option maxRecDepth 100000 in
theorem ckP_134_e : (nmP134.drop 80).all (ck_i 134) = true := by decide +kernel
set_option maxRecDepth 100000 in
theorem ckP_135 : nmP135.all (ck_i 135) = true := by decide +kernel
set_option maxRecDepth 100000 in
theorem ckP_136 : nmP136.all (ck_i 136) = true := by decide +kernel
set_option maxRecDepth 100000 in
theorem ckP_137 : nmP137.all (ck_i 137) = true := by decide +kernel
set_option maxRecDepth 100000 in
theorem ckP_138 : nmP138.all (ck_i 138) = true := by decide +kernel
set_option maxRecDepth 100000 in
theorem ckP_139_0 : ((nmP139.drop 0).take 40).all (ck_i 139) = true := by decide +kernel
set_option maxRecDepth 100000 in
theorem ckP_139_1 : ((nmP139.drop 40).take 40).all (ck_i 139) = true := by decide +kernel
set_option maxRecDepth 100000 in
theorem ckP_139_e : (nmP139.drop 80).all (ck_i 139) = true := by decide +kernel
set_option maxRecDepth 100000 in
theorem ckP_140_0 : ((nmP140.drop 0).take 40).all (ck_i 140) = true := by decide +kernel
set_option maxRecDepth 100000 in
theorem ckP_140_1 : ((nmP140.drop 40).take 40).all (ck_i 140) = true := by decide +kernel
set_option maxRecDepth 100000 in
theorem ckP_140_e : (nmP140.drop 80).all (ck_i 140) = true := by decide +kernel
set_option maxRecDepth 100000 in
theorem ckP_141 : nmP141.all (ck_i 141) = true := by decide +kernel
set_option maxRecDepth 100000 in
theorem ckP_142 : nmP142.all (ck_i 142) = true := by decide +kernel
set_option maxRecDepth 100000 in
theorem ckP_143 : nmP143.all (ck_i 143) = true := by decide +kernel
set_option maxRecDepth 100000 in
theorem ckP_144 : nmP144.all (ck_i 144) = true := by decide +kernel
set_option maxRecDepth 100000 in
theorem ckP_145 : nmP145.all (ck_i 145) = true := by decide +kernel
set_option maxRecDepth 100000 in
theorem ckP_146 : nmP146.all (ck_i 146) = true := by decide +kernel
set_option maxRecDepth 100000 in
theorem ckP_147 : nmP147.all (ck_i 147) = true := by decide +kernel
set_option maxRecDepth 100000 in
theorem ckP_148 : nmP148.all (ck_i 148) = true := by decide +kernel
set_option maxRecDepth 100000 in
theorem ckP_149 : nmP149.all (ck_i 149) = true := by decide +kernel
set_option maxRecDepth 100000 in
theorem ckP_150 : nmP150.all (ck_i 150) = true := by decide +kernel
set_option maxRecDepth 100000 in
theorem ckP_151 : nmP151.all (ck_i 151) = true := by decide +kernel
set_option maxRecDepth 100000 in
theorem ckP_152 : nmP152.all (ck_i 152) = true := by decide +kernel
set_option maxRecDepth 100000 in
theorem ckP_153 : nmP153.all (ck_i 153) = true := by decide +kernel
set_option maxRecDepth 100000 in
theorem ckP_154 : nmP154.all (ck_i 154) = true := by decide +kernel
set_option maxRecDepth 100000 in
theorem ckP_155 : nmP155.all (ck_i 155) = true := by decide +kernel
set_option maxRecDepth 100000 in
theorem ckP_156 : nmP156.all (ck_i 156) = true := by decide +kernel
set_option maxRecDepth 100000 in
theorem ckP_157_0 : ((nmP157.drop 0).take 40).all (ck_i 157) = true := by decide +kernel
set_option maxRecDepth 100000 in
theorem ckP_157_1 : ((nmP157.drop 40).take 40).all (ck_i 157) = true := by decide +kernel
set_option maxRecDepth 100000 in
theorem ckP_157_2 : ((nmP157.drop 80).take 40).all (ck_i 157) = true := by decide +kernel
set_option maxRecDepth 100000 in
theorem ckP_157_3 : ((nmP157.drop 120).take 40).all (ck_i 157) = true := by decide +kernel
set_option maxRecDepth 100000 in
theorem ckP_157_4 : ((nmP157.drop 160).take 40).all (ck_i 157) = true := by decide +kernel
set_option maxRecDepth 100000 in
theorem ckP_157_5 : ((nmP157.drop 200).take 40).all (ck_i 157) = true := by decide +kernel
set_option maxRecDepth 100000 in
theorem ckP_157_6 : ((nmP157.drop 240).take 40).all (ck_i 157) = true := by decide +kernel
set_option maxRecDepth 100000 in
theorem ckP_157_7 : ((nmP157.drop 280).take 40).all (ck_i 157) = true := by decide +kernel
set_option maxRecDepth 100000 in
theorem ckP_157_8 : ((nmP157.drop 320).take 40).all (ck_i 157) = true := by decide +kernel
set_option maxRecDepth 100000 in
theorem ckP_157_9 : ((nmP157.drop 360).take 40).all (ck_i 157) = true := by decide +kernel
set_option maxRecDepth 100000 in
theorem ckP_157_10 : ((nmP157.drop 400).take 40).all (ck_i 157) = true := by decide +kernel
set_option maxRecDepth 100000 in
theorem ckP_157_11 : ((nmP157.drop 440).take 40).all (ck_i 157) = true := by decide +kernel
set_option maxRecDepth 100000 in
theorem ckP_157_12 : ((nmP157.drop 480).take 40).all (ck_i 157) = true := by decide +kernel
set_option maxRecDepth 100000 in
theorem ckP_157_13 : ((nmP157.drop 520).take 40).all (ck_i 157) = true := by decide +kernel
set_option maxRecDepth 100000 in
theorem ckP_157_14 : ((nmP157.drop 560).take 40).all (ck_i 157) = true := by decide +kernel
set_option maxRecDepth 100000 in
theorem ckP_157_e : (nmP157.drop 600).all (ck_i 157) = true := by decide +kernel
