theorem k_L_7 : Cok RL 7 yX11_feed cX11_feed 5 (some .int) 2 := ⟨bw_5 169 rfl rfl, bw_5 170 rfl rfl, bw_5 171 rfl rfl, bw_1 1 rfl rfl, bw_5 172 rfl rfl, by decide, by decide, by decide +kernel⟩
theorem k_L_17 : Cok RL 17 yX11_count cX11_count 2 (some .int) 1 := ⟨bw_6 20 rfl rfl, bw_6 21 rfl rfl, bw_6 22 rfl rfl, bw_1 1 rfl rfl, bw_6 23 rfl rfl, by decide, by decide, by decide +kernel⟩
theorem k_L_21 : Cok RL 21 yX11_event cX11_event 3 (some .long) 2 := ⟨bw_6 46 rfl rfl, bw_6 47 rfl rfl, bw_6 48 rfl rfl, bw_1 1 rfl rfl, bw_6 49 rfl rfl, by decide, by decide, by decide +kernel⟩
theorem k_L_27 : Cok RL 27 yX11_pitch cX11_pitch 5 (some .int) 3 := ⟨bw_6 78 rfl rfl, bw_6 79 rfl rfl, bw_6 80 rfl rfl, bw_1 1 rfl rfl, bw_6 81 rfl rfl, by decide, by decide, by decide +kernel⟩
theorem k_L_31 : Cok RL 31 yX11_word cX11_word 4 (some .int) 3 := ⟨bw_6 92 rfl rfl, bw_6 93 rfl rfl, bw_6 94 rfl rfl, bw_1 1 rfl rfl, bw_6 95 rfl rfl, by decide, by decide, by decide +kernel⟩
theorem k_L_34 : Cok RL 34 yX11_walk cX11_walk 2 (some .int) 1 := ⟨bw_6 101 rfl rfl, bw_6 102 rfl rfl, bw_6 103 rfl rfl, bw_1 1 rfl rfl, bw_6 104 rfl rfl, by decide, by decide, by decide +kernel⟩
theorem k_L_37 : Cok RL 37 yX11_bar cX11_bar 7 (some .long) 2 := ⟨bw_6 108 rfl rfl, bw_6 109 rfl rfl, bw_6 110 rfl rfl, bw_1 1 rfl rfl, bw_6 111 rfl rfl, by decide, by decide, by decide +kernel⟩
theorem k_L_40 : Cok RL 40 yX11_at cX11_at 4 (some .int) 3 := ⟨bw_6 131 rfl rfl, bw_6 132 rfl rfl, bw_6 133 rfl rfl, bw_1 1 rfl rfl, bw_6 134 rfl rfl, by decide, by decide, by decide +kernel⟩
