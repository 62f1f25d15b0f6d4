/-! the pieces together -/
theorem ck_split {p : nmPI → Bool} (n : Nat) {d : Nat} {m : List nmPI} (h : ((m.drop d).take n).all p = true) (h2 : (m.drop (d + n)).all p = true) : (m.drop d).all p = true := by
  rw [← List.take_append_drop n (m.drop d), List.all_append, h, List.drop_drop, h2]; rfl
set_option maxRecDepth 100000 in
theorem ckP_12 : nmP12.all (ck_i 12) = true := by
  have h2 : (nmP12.drop 80).all (ck_i 12) = true := ckP_12_e
  have h1 : (nmP12.drop 40).all (ck_i 12) = true := ck_split 40 ckP_12_1 h2
  have h0 : (nmP12.drop 0).all (ck_i 12) = true := ck_split 40 ckP_12_0 h1
  rw [List.drop_zero] at h0
  exact h0
set_option maxRecDepth 100000 in
theorem ckP_16 : nmP16.all (ck_i 16) = true := by
  have h2 : (nmP16.drop 80).all (ck_i 16) = true := ckP_16_e
  have h1 : (nmP16.drop 40).all (ck_i 16) = true := ck_split 40 ckP_16_1 h2
  have h0 : (nmP16.drop 0).all (ck_i 16) = true := ck_split 40 ckP_16_0 h1
  rw [List.drop_zero] at h0
  exact h0
set_option maxRecDepth 100000 in
theorem ckP_17 : nmP17.all (ck_i 17) = true := by
  have h2 : (nmP17.drop 80).all (ck_i 17) = true := ckP_17_e
  have h1 : (nmP17.drop 40).all (ck_i 17) = true := ck_split 40 ckP_17_1 h2
  have h0 : (nmP17.drop 0).all (ck_i 17) = true := ck_split 40 ckP_17_0 h1
  rw [List.drop_zero] at h0
  exact h0
set_option maxRecDepth 100000 in
theorem ckP_19 : nmP19.all (ck_i 19) = true := by
  have h2 : (nmP19.drop 80).all (ck_i 19) = true := ckP_19_e
  have h1 : (nmP19.drop 40).all (ck_i 19) = true := ck_split 40 ckP_19_1 h2
  have h0 : (nmP19.drop 0).all (ck_i 19) = true := ck_split 40 ckP_19_0 h1
  rw [List.drop_zero] at h0
  exact h0
set_option maxRecDepth 100000 in
theorem ckP_31 : nmP31.all (ck_i 31) = true := by
  have h3 : (nmP31.drop 120).all (ck_i 31) = true := ckP_31_e
  have h2 : (nmP31.drop 80).all (ck_i 31) = true := ck_split 40 ckP_31_2 h3
  have h1 : (nmP31.drop 40).all (ck_i 31) = true := ck_split 40 ckP_31_1 h2
  have h0 : (nmP31.drop 0).all (ck_i 31) = true := ck_split 40 ckP_31_0 h1
  rw [List.drop_zero] at h0
  exact h0
set_option maxRecDepth 100000 in
theorem ckP_34 : nmP34.all (ck_i 34) = true := by
  have h2 : (nmP34.drop 80).all (ck_i 34) = true := ckP_34_e
  have h1 : (nmP34.drop 40).all (ck_i 34) = true := ck_split 40 ckP_34_1 h2
  have h0 : (nmP34.drop 0).all (ck_i 34) = true := ck_split 40 ckP_34_0 h1
  rw [List.drop_zero] at h0
  exact h0
set_option maxRecDepth 100000 in
theorem ckP_35 : nmP35.all (ck_i 35) = true := by
  have h2 : (nmP35.drop 80).all (ck_i 35) = true := ckP_35_e
  have h1 : (nmP35.drop 40).all (ck_i 35) = true := ck_split 40 ckP_35_1 h2
  have h0 : (nmP35.drop 0).all (ck_i 35) = true := ck_split 40 ckP_35_0 h1
  rw [List.drop_zero] at h0
  exact h0
set_option maxRecDepth 100000 in
theorem ckP_37 : nmP37.all (ck_i 37) = true := by
  have h2 : (nmP37.drop 80).all (ck_i 37) = true := ckP_37_e
  have h1 : (nmP37.drop 40).all (ck_i 37) = true := ck_split 40 ckP_37_1 h2
  have h0 : (nmP37.drop 0).all (ck_i 37) = true := ck_split 40 ckP_37_0 h1
  rw [List.drop_zero] at h0
  exact h0
set_option maxRecDepth 100000 in
theorem ckP_38 : nmP38.all (ck_i 38) = true := by
  have h2 : (nmP38.drop 80).all (ck_i 38) = true := ckP_38_e
  have h1 : (nmP38.drop 40).all (ck_i 38) = true := ck_split 40 ckP_38_1 h2
  have h0 : (nmP38.drop 0).all (ck_i 38) = true := ck_split 40 ckP_38_0 h1
  rw [List.drop_zero] at h0
  exact h0
set_option maxRecDepth 100000 in
theorem ckP_40 : nmP40.all (ck_i 40) = true := by
  have h3 : (nmP40.drop 120).all (ck_i 40) = true := ckP_40_e
  have h2 : (nmP40.drop 80).all (ck_i 40) = true := ck_split 40 ckP_40_2 h3
  have h1 : (nmP40.drop 40).all (ck_i 40) = true := ck_split 40 ckP_40_1 h2
  have h0 : (nmP40.drop 0).all (ck_i 40) = true := ck_split 40 ckP_40_0 h1
  rw [List.drop_zero] at h0
  exact h0
set_option maxRecDepth 100000 in
theorem ckP_42 : nmP42.all (ck_i 42) = true := by
  have h3 : (nmP42.drop 120).all (ck_i 42) = true := ckP_42_e
  have h2 : (nmP42.drop 80).all (ck_i 42) = true := ck_split 40 ckP_42_2 h3
  have h1 : (nmP42.drop 40).all (ck_i 42) = true := ck_split 40 ckP_42_1 h2
  have h0 : (nmP42.drop 0).all (ck_i 42) = true := ck_split 40 ckP_42_0 h1
  rw [List.drop_zero] at h0
  exact h0
set_option maxRecDepth 100000 in
theorem ckP_45 : nmP45.all (ck_i 45) = true := by
  have h4 : (nmP45.drop 160).all (ck_i 45) = true := ckP_45_e
  have h3 : (nmP45.drop 120).all (ck_i 45) = true := ck_split 40 ckP_45_3 h4
  have h2 : (nmP45.drop 80).all (ck_i 45) = true := ck_split 40 ckP_45_2 h3
  have h1 : (nmP45.drop 40).all (ck_i 45) = true := ck_split 40 ckP_45_1 h2
  have h0 : (nmP45.drop 0).all (ck_i 45) = true := ck_split 40 ckP_45_0 h1
  rw [List.drop_zero] at h0
  exact h0
set_option maxRecDepth 100000 in
theorem ckP_46 : nmP46.all (ck_i 46) = true := by
  have h2 : (nmP46.drop 80).all (ck_i 46) = true := ckP_46_e
  have h1 : (nmP46.drop 40).all (ck_i 46) = true := ck_split 40 ckP_46_1 h2
  have h0 : (nmP46.drop 0).all (ck_i 46) = true := ck_split 40 ckP_46_0 h1
  rw [List.drop_zero] at h0
  exact h0
set_option maxRecDepth 100000 in
theorem ckP_47 : nmP47.all (ck_i 47) = true := by
  have h2 : (nmP47.drop 80).all (ck_i 47) = true := ckP_47_e
  have h1 : (nmP47.drop 40).all (ck_i 47) = true := ck_split 40 ckP_47_1 h2
  have h0 : (nmP47.drop 0).all (ck_i 47) = true := ck_split 40 ckP_47_0 h1
  rw [List.drop_zero] at h0
  exact h0
set_option maxRecDepth 100000 in
theorem ckP_48 : nmP48.all (ck_i 48) = true := by
  have h3 : (nmP48.drop 120).all (ck_i 48) = true := ckP_48_e
  have h2 : (nmP48.drop 80).all (ck_i 48) = true := ck_split 40 ckP_48_2 h3
  have h1 : (nmP48.drop 40).all (ck_i 48) = true := ck_split 40 ckP_48_1 h2
  have h0 : (nmP48.drop 0).all (ck_i 48) = true := ck_split 40 ckP_48_0 h1
  rw [List.drop_zero] at h0
  exact h0
set_option maxRecDepth 100000 in
theorem ckP_50 : nmP50.all (ck_i 50) = true := by
  have h2 : (nmP50.drop 80).all (ck_i 50) = true := ckP_50_e
  have h1 : (nmP50.drop 40).all (ck_i 50) = true := ck_split 40 ckP_50_1 h2
  have h0 : (nmP50.drop 0).all (ck_i 50) = true := ck_split 40 ckP_50_0 h1
  rw [List.drop_zero] at h0
  exact h0
set_option maxRecDepth 100000 in
theorem ckP_51 : nmP51.all (ck_i 51) = true := by
  have h3 : (nmP51.drop 120).all (ck_i 51) = true := ckP_51_e
  have h2 : (nmP51.drop 80).all (ck_i 51) = true := ck_split 40 ckP_51_2 h3
  have h1 : (nmP51.drop 40).all (ck_i 51) = true := ck_split 40 ckP_51_1 h2
  have h0 : (nmP51.drop 0).all (ck_i 51) = true := ck_split 40 ckP_51_0 h1
  rw [List.drop_zero] at h0
  exact h0
set_option maxRecDepth 100000 in
theorem ckP_52 : nmP52.all (ck_i 52) = true := by
  have h2 : (nmP52.drop 80).all (ck_i 52) = true := ckP_52_e
  have h1 : (nmP52.drop 40).all (ck_i 52) = true := ck_split 40 ckP_52_1 h2
  have h0 : (nmP52.drop 0).all (ck_i 52) = true := ck_split 40 ckP_52_0 h1
  rw [List.drop_zero] at h0
  exact h0
set_option maxRecDepth 100000 in
theorem ckP_53 : nmP53.all (ck_i 53) = true := by
  have h5 : (nmP53.drop 200).all (ck_i 53) = true := ckP_53_e
  have h4 : (nmP53.drop 160).all (ck_i 53) = true := ck_split 40 ckP_53_4 h5
  have h3 : (nmP53.drop 120).all (ck_i 53) = true := ck_split 40 ckP_53_3 h4
  have h2 : (nmP53.drop 80).all (ck_i 53) = true := ck_split 40 ckP_53_2 h3
  have h1 : (nmP53.drop 40).all (ck_i 53) = true := ck_split 40 ckP_53_1 h2
  have h0 : (nmP53.drop 0).all (ck_i 53) = true := ck_split 40 ckP_53_0 h1
  rw [List.drop_zero] at h0
  exact h0
set_option maxRecDepth 100000 in
theorem ckP_56 : nmP56.all (ck_i 56) = true := by
  have h4 : (nmP56.drop 160).all (ck_i 56) = true := ckP_56_e
  have h3 : (nmP56.drop 120).all (ck_i 56) = true := ck_split 40 ckP_56_3 h4
  have h2 : (nmP56.drop 80).all (ck_i 56) = true := ck_split 40 ckP_56_2 h3
  have h1 : (nmP56.drop 40).all (ck_i 56) = true := ck_split 40 ckP_56_1 h2
  have h0 : (nmP56.drop 0).all (ck_i 56) = true := ck_split 40 ckP_56_0 h1
  rw [List.drop_zero] at h0
  exact h0
set_option maxRecDepth 100000 in
theorem ckP_57 : nmP57.all (ck_i 57) = true := by
  have h6 : (nmP57.drop 240).all (ck_i 57) = true := ckP_57_e
  have h5 : (nmP57.drop 200).all (ck_i 57) = true := ck_split 40 ckP_57_5 h6
  have h4 : (nmP57.drop 160).all (ck_i 57) = true := ck_split 40 ckP_57_4 h5
  have h3 : (nmP57.drop 120).all (ck_i 57) = true := ck_split 40 ckP_57_3 h4
  have h2 : (nmP57.drop 80).all (ck_i 57) = true := ck_split 40 ckP_57_2 h3
  have h1 : (nmP57.drop 40).all (ck_i 57) = true := ck_split 40 ckP_57_1 h2
  have h0 : (nmP57.drop 0).all (ck_i 57) = true := ck_split 40 ckP_57_0 h1
  rw [List.drop_zero] at h0
  exact h0
set_option maxRecDepth 100000 in
theorem ckP_61 : nmP61.all (ck_i 61) = true := by
  have h2 : (nmP61.drop 80).all (ck_i 61) = true := ckP_61_e
  have h1 : (nmP61.drop 40).all (ck_i 61) = true := ck_split 40 ckP_61_1 h2
  have h0 : (nmP61.drop 0).all (ck_i 61) = true := ck_split 40 ckP_61_0 h1
  rw [List.drop_zero] at h0
  exact h0
set_option maxRecDepth 100000 in
theorem ckP_62 : nmP62.all (ck_i 62) = true := by
  have h2 : (nmP62.drop 80).all (ck_i 62) = true := ckP_62_e
  have h1 : (nmP62.drop 40).all (ck_i 62) = true := ck_split 40 ckP_62_1 h2
  have h0 : (nmP62.drop 0).all (ck_i 62) = true := ck_split 40 ckP_62_0 h1
  rw [List.drop_zero] at h0
  exact h0
set_option maxRecDepth 100000 in
theorem ckP_67 : nmP67.all (ck_i 67) = true := by
  have h2 : (nmP67.drop 80).all (ck_i 67) = true := ckP_67_e
  have h1 : (nmP67.drop 40).all (ck_i 67) = true := ck_split 40 ckP_67_1 h2
  have h0 : (nmP67.drop 0).all (ck_i 67) = true := ck_split 40 ckP_67_0 h1
  rw [List.drop_zero] at h0
  exact h0
set_option maxRecDepth 100000 in
theorem ckP_69 : nmP69.all (ck_i 69) = true := by
  have h4 : (nmP69.drop 160).all (ck_i 69) = true := ckP_69_e
  have h3 : (nmP69.drop 120).all (ck_i 69) = true := ck_split 40 ckP_69_3 h4
  have h2 : (nmP69.drop 80).all (ck_i 69) = true := ck_split 40 ckP_69_2 h3
  have h1 : (nmP69.drop 40).all (ck_i 69) = true := ck_split 40 ckP_69_1 h2
  have h0 : (nmP69.drop 0).all (ck_i 69) = true := ck_split 40 ckP_69_0 h1
  rw [List.drop_zero] at h0
  exact h0
set_option maxRecDepth 100000 in
theorem ckP_71 : nmP71.all (ck_i 71) = true := by
  have h3 : (nmP71.drop 120).all (ck_i 71) = true := ckP_71_e
  have h2 : (nmP71.drop 80).all (ck_i 71) = true := ck_split 40 ckP_71_2 h3
  have h1 : (nmP71.drop 40).all (ck_i 71) = true := ck_split 40 ckP_71_1 h2
  have h0 : (nmP71.drop 0).all (ck_i 71) = true := ck_split 40 ckP_71_0 h1
  rw [List.drop_zero] at h0
  exact h0
set_option maxRecDepth 100000 in
theorem ckP_73 : nmP73.all (ck_i 73) = true := by
  have h2 : (nmP73.drop 80).all (ck_i 73) = true := ckP_73_e
  have h1 : (nmP73.drop 40).all (ck_i 73) = true := ck_split 40 ckP_73_1 h2
  have h0 : (nmP73.drop 0).all (ck_i 73) = true := ck_split 40 ckP_73_0 h1
  rw [List.drop_zero] at h0
  exact h0
set_option maxRecDepth 100000 in
theorem ckP_74 : nmP74.all (ck_i 74) = true := by
  have h2 : (nmP74.drop 80).all (ck_i 74) = true := ckP_74_e
  have h1 : (nmP74.drop 40).all (ck_i 74) = true := ck_split 40 ckP_74_1 h2
  have h0 : (nmP74.drop 0).all (ck_i 74) = true := ck_split 40 ckP_74_0 h1
  rw [List.drop_zero] at h0
  exact h0
set_option maxRecDepth 100000 in
theorem ckP_80 : nmP80.all (ck_i 80) = true := by
  have h2 : (nmP80.drop 80).all (ck_i 80) = true := ckP_80_e
  have h1 : (nmP80.drop 40).all (ck_i 80) = true := ck_split 40 ckP_80_1 h2
  have h0 : (nmP80.drop 0).all (ck_i 80) = true := ck_split 40 ckP_80_0 h1
  rw [List.drop_zero] at h0
  exact h0
set_option maxRecDepth 100000 in
theorem ckP_86 : nmP86.all (ck_i 86) = true := by
  have h2 : (nmP86.drop 80).all (ck_i 86) = true := ckP_86_e
  have h1 : (nmP86.drop 40).all (ck_i 86) = true := ck_split 40 ckP_86_1 h2
  have h0 : (nmP86.drop 0).all (ck_i 86) = true := ck_split 40 ckP_86_0 h1
  rw [List.drop_zero] at h0
  exact h0
set_option maxRecDepth 100000 in
theorem ckP_97 : nmP97.all (ck_i 97) = true := by
  have h2 : (nmP97.drop 80).all (ck_i 97) = true := ckP_97_e
  have h1 : (nmP97.drop 40).all (ck_i 97) = true := ck_split 40 ckP_97_1 h2
  have h0 : (nmP97.drop 0).all (ck_i 97) = true := ck_split 40 ckP_97_0 h1
  rw [List.drop_zero] at h0
  exact h0
set_option maxRecDepth 100000 in
theorem ckP_98 : nmP98.all (ck_i 98) = true := by
  have h4 : (nmP98.drop 160).all (ck_i 98) = true := ckP_98_e
  have h3 : (nmP98.drop 120).all (ck_i 98) = true := ck_split 40 ckP_98_3 h4
  have h2 : (nmP98.drop 80).all (ck_i 98) = true := ck_split 40 ckP_98_2 h3
  have h1 : (nmP98.drop 40).all (ck_i 98) = true := ck_split 40 ckP_98_1 h2
  have h0 : (nmP98.drop 0).all (ck_i 98) = true := ck_split 40 ckP_98_0 h1
  rw [List.drop_zero] at h0
  exact h0
set_option maxRecDepth 100000 in
theorem ckP_99 : nmP99.all (ck_i 99) = true := by
  have h3 : (nmP99.drop 120).all (ck_i 99) = true := ckP_99_e
  have h2 : (nmP99.drop 80).all (ck_i 99) = true := ck_split 40 ckP_99_2 h3
  have h1 : (nmP99.drop 40).all (ck_i 99) = true := ck_split 40 ckP_99_1 h2
  have h0 : (nmP99.drop 0).all (ck_i 99) = true := ck_split 40 ckP_99_0 h1
  rw [List.drop_zero] at h0
  exact h0
set_option maxRecDepth 100000 in
theorem ckP_101 : nmP101.all (ck_i 101) = true := by
  have h5 : (nmP101.drop 200).all (ck_i 101) = true := ckP_101_e
  have h4 : (nmP101.drop 160).all (ck_i 101) = true := ck_split 40 ckP_101_4 h5
  have h3 : (nmP101.drop 120).all (ck_i 101) = true := ck_split 40 ckP_101_3 h4
  have h2 : (nmP101.drop 80).all (ck_i 101) = true := ck_split 40 ckP_101_2 h3
  have h1 : (nmP101.drop 40).all (ck_i 101) = true := ck_split 40 ckP_101_1 h2
  have h0 : (nmP101.drop 0).all (ck_i 101) = true := ck_split 40 ckP_101_0 h1
  rw [List.drop_zero] at h0
  exact h0
set_option maxRecDepth 100000 in
theorem ckP_111 : nmP111.all (ck_i 111) = true := by
  have h2 : (nmP111.drop 80).all (ck_i 111) = true := ckP_111_e
  have h1 : (nmP111.drop 40).all (ck_i 111) = true := ck_split 40 ckP_111_1 h2
  have h0 : (nmP111.drop 0).all (ck_i 111) = true := ck_split 40 ckP_111_0 h1
  rw [List.drop_zero] at h0
  exact h0
set_option maxRecDepth 100000 in
theorem ckP_121 : nmP121.all (ck_i 121) = true := by
  have h2 : (nmP121.drop 80).all (ck_i 121) = true := ckP_121_e
  have h1 : (nmP121.drop 40).all (ck_i 121) = true := ck_split 40 ckP_121_1 h2
  have h0 : (nmP121.drop 0).all (ck_i 121) = true := ck_split 40 ckP_121_0 h1
  rw [List.drop_zero] at h0
  exact h0
set_option maxRecDepth 100000 in
theorem ckP_134 : nmP134.all (ck_i 134) = true := by
  have h2 : (nmP134.drop 80).all (ck_i 134) = true := ckP_134_e
  have h1 : (nmP134.drop 40).all (ck_i 134) = true := ck_split 40 ckP_134_1 h2
  have h0 : (nmP134.drop 0).all (ck_i 134) = true := ck_split 40 ckP_134_0 h1
  rw [List.drop_zero] at h0
  exact h0
set_option maxRecDepth 100000 in
theorem ckP_139 : nmP139.all (ck_i 139) = true := by
  have h2 : (nmP139.drop 80).all (ck_i 139) = true := ckP_139_e
  have h1 : (nmP139.drop 40).all (ck_i 139) = true := ck_split 40 ckP_139_1 h2
  have h0 : (nmP139.drop 0).all (ck_i 139) = true := ck_split 40 ckP_139_0 h1
  rw [List.drop_zero] at h0
  exact h0
set_option maxRecDepth 100000 in
theorem ckP_140 : nmP140.all (ck_i 140) = true := by
  have h2 : (nmP140.drop 80).all (ck_i 140) = true := ckP_140_e
  have h1 : (nmP140.drop 40).all (ck_i 140) = true := ck_split 40 ckP_140_1 h2
  have h0 : (nmP140.drop 0).all (ck_i 140) = true := ck_split 40 ckP_140_0 h1
  rw [List.drop_zero] at h0
  exact h0
set_option maxRecDepth 100000 in
theorem ckP_157 : nmP157.all (ck_i 157) = true := by
  have h15 : (nmP157.drop 600).all (ck_i 157) = true := ckP_157_e
  have h14 : (nmP157.drop 560).all (ck_i 157) = true := ck_split 40 ckP_157_14 h15
  have h13 : (nmP157.drop 520).all (ck_i 157) = true := ck_split 40 ckP_157_13 h14
  have h12 : (nmP157.drop 480).all (ck_i 157) = true := ck_split 40 ckP_157_12 h13
  have h11 : (nmP157.drop 440).all (ck_i 157) = true := ck_split 40 ckP_157_11 h12
  have h10 : (nmP157.drop 400).all (ck_i 157) = true := ck_split 40 ckP_157_10 h11
  have h9 : (nmP157.drop 360).all (ck_i 157) = true := ck_split 40 ckP_157_9 h10
  have h8 : (nmP157.drop 320).all (ck_i 157) = true := ck_split 40 ckP_157_8 h9
  have h7 : (nmP157.drop 280).all (ck_i 157) = true := ck_split 40 ckP_157_7 h8
  have h6 : (nmP157.drop 240).all (ck_i 157) = true := ck_split 40 ckP_157_6 h7
  have h5 : (nmP157.drop 200).all (ck_i 157) = true := ck_split 40 ckP_157_5 h6
  have h4 : (nmP157.drop 160).all (ck_i 157) = true := ck_split 40 ckP_157_4 h5
  have h3 : (nmP157.drop 120).all (ck_i 157) = true := ck_split 40 ckP_157_3 h4
  have h2 : (nmP157.drop 80).all (ck_i 157) = true := ck_split 40 ckP_157_2 h3
  have h1 : (nmP157.drop 40).all (ck_i 157) = true := ck_split 40 ckP_157_1 h2
  have h0 : (nmP157.drop 0).all (ck_i 157) = true := ck_split 40 ckP_157_0 h1
  rw [List.drop_zero] at h0
  exact h0
set_option maxRecDepth 100000 in
theorem ckP_all : ∀ (mi : Nat) (l : List nmPI), nmP[mi]? = some l → l.all (ck_i mi) = true := by
  intro mi l h
  match mi, h with
  | 0, h => exact (Option.some.inj (show some nmP0 = some l from h)) ▸ ckP_0
  | 1, h => exact (Option.some.inj (show some nmP1 = some l from h)) ▸ ckP_1
  | 2, h => exact (Option.some.inj (show some nmP2 = some l from h)) ▸ ckP_2
  | 3, h => exact (Option.some.inj (show some nmP3 = some l from h)) ▸ ckP_3
  | 4, h => exact (Option.some.inj (show some nmP4 = some l from h)) ▸ ckP_4
  | 5, h => exact (Option.some.inj (show some nmP5 = some l from h)) ▸ ckP_5
  | 6, h => exact (Option.some.inj (show some nmP6 = some l from h)) ▸ ckP_6
  | 7, h => exact (Option.some.inj (show some nmP7 = some l from h)) ▸ ckP_7
  | 8, h => exact (Option.some.inj (show some nmP8 = some l from h)) ▸ ckP_8
  | 9, h => exact (Option.some.inj (show some nmP9 = some l from h)) ▸ ckP_9
  | 10, h => exact (Option.some.inj (show some nmP10 = some l from h)) ▸ ckP_10
  | 11, h => exact (Option.some.inj (show some nmP11 = some l from h)) ▸ ckP_11
  | 12, h => exact (Option.some.inj (show some nmP12 = some l from h)) ▸ ckP_12
  | 13, h => exact (Option.some.inj (show some nmP13 = some l from h)) ▸ ckP_13
  | 14, h => exact (Option.some.inj (show some nmP14 = some l from h)) ▸ ckP_14
  | 15, h => exact (Option.some.inj (show some nmP15 = some l from h)) ▸ ckP_15
  | 16, h => exact (Option.some.inj (show some nmP16 = some l from h)) ▸ ckP_16
  | 17, h => exact (Option.some.inj (show some nmP17 = some l from h)) ▸ ckP_17
  | 18, h => exact (Option.some.inj (show some nmP18 = some l from h)) ▸ ckP_18
  | 19, h => exact (Option.some.inj (show some nmP19 = some l from h)) ▸ ckP_19
  | 20, h => exact (Option.some.inj (show some nmP20 = some l from h)) ▸ ckP_20
  | 21, h => exact (Option.some.inj (show some nmP21 = some l from h)) ▸ ckP_21
  | 22, h => exact (Option.some.inj (show some nmP22 = some l from h)) ▸ ckP_22
  | 23, h => exact (Option.some.inj (show some nmP23 = some l from h)) ▸ ckP_23
  | 24, h => exact (Option.some.inj (show some nmP24 = some l from h)) ▸ ckP_24
  | 25, h => exact (Option.some.inj (show some nmP25 = some l from h)) ▸ ckP_25
  | 26, h => exact (Option.some.inj (show some nmP26 = some l from h)) ▸ ckP_26
  | 27, h => exact (Option.some.inj (show some nmP27 = some l from h)) ▸ ckP_27
  | 28, h => exact (Option.some.inj (show some nmP28 = some l from h)) ▸ ckP_28
  | 29, h => exact (Option.some.inj (show some nmP29 = some l from h)) ▸ ckP_29
  | 30, h => exact (Option.some.inj (show some nmP30 = some l from h)) ▸ ckP_30
  | 31, h => exact (Option.some.inj (show some nmP31 = some l from h)) ▸ ckP_31
  | 32, h => exact (Option.some.inj (show some nmP32 = some l from h)) ▸ ckP_32
  | 33, h => exact (Option.some.inj (show some nmP33 = some l from h)) ▸ ckP_33
  | 34, h => exact (Option.some.inj (show some nmP34 = some l from h)) ▸ ckP_34
  | 35, h => exact (Option.some.inj (show some nmP35 = some l from h)) ▸ ckP_35
  | 36, h => exact (Option.some.inj (show some nmP36 = some l from h)) ▸ ckP_36
  | 37, h => exact (Option.some.inj (show some nmP37 = some l from h)) ▸ ckP_37
  | 38, h => exact (Option.some.inj (show some nmP38 = some l from h)) ▸ ckP_38
  | 39, h => exact (Option.some.inj (show some nmP39 = some l from h)) ▸ ckP_39
  | 40, h => exact (Option.some.inj (show some nmP40 = some l from h)) ▸ ckP_40
  | 41, h => exact (Option.some.inj (show some nmP41 = some l from h)) ▸ ckP_41
  | 42, h => exact (Option.some.inj (show some nmP42 = some l from h)) ▸ ckP_42
  | 43, h => exact (Option.some.inj (show some nmP43 = some l from h)) ▸ ckP_43
  | 44, h => exact (Option.some.inj (show some nmP44 = some l from h)) ▸ ckP_44
  | 45, h => exact (Option.some.inj (show some nmP45 = some l from h)) ▸ ckP_45
  | 46, h => exact (Option.some.inj (show some nmP46 = some l from h)) ▸ ckP_46
  | 47, h => exact (Option.some.inj (show some nmP47 = some l from h)) ▸ ckP_47
  | 48, h => exact (Option.some.inj (show some nmP48 = some l from h)) ▸ ckP_48
  | 49, h => exact (Option.some.inj (show some nmP49 = some l from h)) ▸ ckP_49
  | 50, h => exact (Option.some.inj (show some nmP50 = some l from h)) ▸ ckP_50
  | 51, h => exact (Option.some.inj (show some nmP51 = some l from h)) ▸ ckP_51
  | 52, h => exact (Option.some.inj (show some nmP52 = some l from h)) ▸ ckP_52
  | 53, h => exact (Option.some.inj (show some nmP53 = some l from h)) ▸ ckP_53
  | 54, h => exact (Option.some.inj (show some nmP54 = some l from h)) ▸ ckP_54
  | 55, h => exact (Option.some.inj (show some nmP55 = some l from h)) ▸ ckP_55
  | 56, h => exact (Option.some.inj (show some nmP56 = some l from h)) ▸ ckP_56
  | 57, h => exact (Option.some.inj (show some nmP57 = some l from h)) ▸ ckP_57
  | 58, h => exact (Option.some.inj (show some nmP58 = some l from h)) ▸ ckP_58
  | 59, h => exact (Option.some.inj (show some nmP59 = some l from h)) ▸ ckP_59
  | 60, h => exact (Option.some.inj (show some nmP60 = some l from h)) ▸ ckP_60
  | 61, h => exact (Option.some.inj (show some nmP61 = some l from h)) ▸ ckP_61
  | 62, h => exact (Option.some.inj (show some nmP62 = some l from h)) ▸ ckP_62
  | 63, h => exact (Option.some.inj (show some nmP63 = some l from h)) ▸ ckP_63
  | 64, h => exact (Option.some.inj (show some nmP64 = some l from h)) ▸ ckP_64
  | 65, h => exact (Option.some.inj (show some nmP65 = some l from h)) ▸ ckP_65
  | 66, h => exact (Option.some.inj (show some nmP66 = some l from h)) ▸ ckP_66
  | 67, h => exact (Option.some.inj (show some nmP67 = some l from h)) ▸ ckP_67
  | 68, h => exact (Option.some.inj (show some nmP68 = some l from h)) ▸ ckP_68
  | 69, h => exact (Option.some.inj (show some nmP69 = some l from h)) ▸ ckP_69
  | 70, h => exact (Option.some.inj (show some nmP70 = some l from h)) ▸ ckP_70
  | 71, h => exact (Option.some.inj (show some nmP71 = some l from h)) ▸ ckP_71
  | 72, h => exact (Option.some.inj (show some nmP72 = some l from h)) ▸ ckP_72
  | 73, h => exact (Option.some.inj (show some nmP73 = some l from h)) ▸ ckP_73
  | 74, h => exact (Option.some.inj (show some nmP74 = some l from h)) ▸ ckP_74
  | 75, h => exact (Option.some.inj (show some nmP75 = some l from h)) ▸ ckP_75
  | 76, h => exact (Option.some.inj (show some nmP76 = some l from h)) ▸ ckP_76
  | 77, h => exact (Option.some.inj (show some nmP77 = some l from h)) ▸ ckP_77
  | 78, h => exact (Option.some.inj (show some nmP78 = some l from h)) ▸ ckP_78
  | 79, h => exact (Option.some.inj (show some nmP79 = some l from h)) ▸ ckP_79
  | 80, h => exact (Option.some.inj (show some nmP80 = some l from h)) ▸ ckP_80
  | 81, h => exact (Option.some.inj (show some nmP81 = some l from h)) ▸ ckP_81
  | 82, h => exact (Option.some.inj (show some nmP82 = some l from h)) ▸ ckP_82
  | 83, h => exact (Option.some.inj (show some nmP83 = some l from h)) ▸ ckP_83
  | 84, h => exact (Option.some.inj (show some nmP84 = some l from h)) ▸ ckP_84
  | 85, h => exact (Option.some.inj (show some nmP85 = some l from h)) ▸ ckP_85
  | 86, h => exact (Option.some.inj (show some nmP86 = some l from h)) ▸ ckP_86
  | 87, h => exact (Option.some.inj (show some nmP87 = some l from h)) ▸ ckP_87
  | 88, h => exact (Option.some.inj (show some nmP88 = some l from h)) ▸ ckP_88
  | 89, h => exact (Option.some.inj (show some nmP89 = some l from h)) ▸ ckP_89
  | 90, h => exact (Option.some.inj (show some nmP90 = some l from h)) ▸ ckP_90
  | 91, h => exact (Option.some.inj (show some nmP91 = some l from h)) ▸ ckP_91
  | 92, h => exact (Option.some.inj (show some nmP92 = some l from h)) ▸ ckP_92
  | 93, h => exact (Option.some.inj (show some nmP93 = some l from h)) ▸ ckP_93
  | 94, h => exact (Option.some.inj (show some nmP94 = some l from h)) ▸ ckP_94
  | 95, h => exact (Option.some.inj (show some nmP95 = some l from h)) ▸ ckP_95
  | 96, h => exact (Option.some.inj (show some nmP96 = some l from h)) ▸ ckP_96
  | 97, h => exact (Option.some.inj (show some nmP97 = some l from h)) ▸ ckP_97
  | 98, h => exact (Option.some.inj (show some nmP98 = some l from h)) ▸ ckP_98
  | 99, h => exact (Option.some.inj (show some nmP99 = some l from h)) ▸ ckP_99
  | 100, h => exact (Option.some.inj (show some nmP100 = some l from h)) ▸ ckP_100
  | 101, h => exact (Option.some.inj (show some nmP101 = some l from h)) ▸ ckP_101
  | 102, h => exact (Option.some.inj (show some nmP102 = some l from h)) ▸ ckP_102
  | 103, h => exact (Option.some.inj (show some nmP103 = some l from h)) ▸ ckP_103
  | 104, h => exact (Option.some.inj (show some nmP104 = some l from h)) ▸ ckP_104
  | 105, h => exact (Option.some.inj (show some nmP105 = some l from h)) ▸ ckP_105
  | 106, h => exact (Option.some.inj (show some nmP106 = some l from h)) ▸ ckP_106
  | 107, h => exact (Option.some.inj (show some nmP107 = some l from h)) ▸ ckP_107
  | 108, h => exact (Option.some.inj (show some nmP108 = some l from h)) ▸ ckP_108
  | 109, h => exact (Option.some.inj (show some nmP109 = some l from h)) ▸ ckP_109
  | 110, h => exact (Option.some.inj (show some nmP110 = some l from h)) ▸ ckP_110
  | 111, h => exact (Option.some.inj (show some nmP111 = some l from h)) ▸ ckP_111
  | 112, h => exact (Option.some.inj (show some nmP112 = some l from h)) ▸ ckP_112
  | 113, h => exact (Option.some.inj (show some nmP113 = some l from h)) ▸ ckP_113
  | 114, h => exact (Option.some.inj (show some nmP114 = some l from h)) ▸ ckP_114
  | 115, h => exact (Option.some.inj (show some nmP115 = some l from h)) ▸ ckP_115
  | 116, h => exact (Option.some.inj (show some nmP116 = some l from h)) ▸ ckP_116
  | 117, h => exact (Option.some.inj (show some nmP117 = some l from h)) ▸ ckP_117
  | 118, h => exact (Option.some.inj (show some nmP118 = some l from h)) ▸ ckP_118
  | 119, h => exact (Option.some.inj (show some nmP119 = some l from h)) ▸ ckP_119
  | 120, h => exact (Option.some.inj (show some nmP120 = some l from h)) ▸ ckP_120
  | 121, h => exact (Option.some.inj (show some nmP121 = some l from h)) ▸ ckP_121
  | 122, h => exact (Option.some.inj (show some nmP122 = some l from h)) ▸ ckP_122
  | 123, h => exact (Option.some.inj (show some nmP123 = some l from h)) ▸ ckP_123
  | 124, h => exact (Option.some.inj (show some nmP124 = some l from h)) ▸ ckP_124
  | 125, h => exact (Option.some.inj (show some nmP125 = some l from h)) ▸ ckP_125
  | 126, h => exact (Option.some.inj (show some nmP126 = some l from h)) ▸ ckP_126
  | 127, h => exact (Option.some.inj (show some nmP127 = some l from h)) ▸ ckP_127
  | 128, h => exact (Option.some.inj (show some nmP128 = some l from h)) ▸ ckP_128
  | 129, h => exact (Option.some.inj (show some nmP129 = some l from h)) ▸ ckP_129
  | 130, h => exact (Option.some.inj (show some nmP130 = some l from h)) ▸ ckP_130
  | 131, h => exact (Option.some.inj (show some nmP131 = some l from h)) ▸ ckP_131
  | 132, h => exact (Option.some.inj (show some nmP132 = some l from h)) ▸ ckP_132
  | 133, h => exact (Option.some.inj (show some nmP133 = some l from h)) ▸ ckP_133
  | 134, h => exact (Option.some.inj (show some nmP134 = some l from h)) ▸ ckP_134
  | 135, h => exact (Option.some.inj (show some nmP135 = some l from h)) ▸ ckP_135
  | 136, h => exact (Option.some.inj (show some nmP136 = some l from h)) ▸ ckP_136
  | 137, h => exact (Option.some.inj (show some nmP137 = some l from h)) ▸ ckP_137
  | 138, h => exact (Option.some.inj (show some nmP138 = some l from h)) ▸ ckP_138
  | 139, h => exact (Option.some.inj (show some nmP139 = some l from h)) ▸ ckP_139
  | 140, h => exact (Option.some.inj (show some nmP140 = some l from h)) ▸ ckP_140
  | 141, h => exact (Option.some.inj (show some nmP141 = some l from h)) ▸ ckP_141
  | 142, h => exact (Option.some.inj (show some nmP142 = some l from h)) ▸ ckP_142
  | 143, h => exact (Option.some.inj (show some nmP143 = some l from h)) ▸ ckP_143
  | 144, h => exact (Option.some.inj (show some nmP144 = some l from h)) ▸ ckP_144
  | 145, h => exact (Option.some.inj (show some nmP145 = some l from h)) ▸ ckP_145
  | 146, h => exact (Option.some.inj (show some nmP146 = some l from h)) ▸ ckP_146
  | 147, h => exact (Option.some.inj (show some nmP147 = some l from h)) ▸ ckP_147
  | 148, h => exact (Option.some.inj (show some nmP148 = some l from h)) ▸ ckP_148
  | 149, h => exact (Option.some.inj (show some nmP149 = some l from h)) ▸ ckP_149
  | 150, h => exact (Option.some.inj (show some nmP150 = some l from h)) ▸ ckP_150
  | 151, h => exact (Option.some.inj (show some nmP151 = some l from h)) ▸ ckP_151
  | 152, h => exact (Option.some.inj (show some nmP152 = some l from h)) ▸ ckP_152
  | 153, h => exact (Option.some.inj (show some nmP153 = some l from h)) ▸ ckP_153
  | 154, h => exact (Option.some.inj (show some nmP154 = some l from h)) ▸ ckP_154
  | 155, h => exact (Option.some.inj (show some nmP155 = some l from h)) ▸ ckP_155
  | 156, h => exact (Option.some.inj (show some nmP156 = some l from h)) ▸ ckP_156
  | 157, h => exact (Option.some.inj (show some nmP157 = some l from h)) ▸ ckP_157
  | mi + 158, h => exact absurd h (by simp [nmP])
