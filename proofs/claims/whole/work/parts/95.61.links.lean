theorem k_X4_22 : fk RX4 22 6 4 := ⟨(RX6, TX6, 15), rfl, by decide, rfl, tyX6_ok, rfl, uX6, nmX6, Or.inr ⟨"VoiceTonight", ni 238 (by decide +kernel) rfl⟩⟩
theorem k_X4_44 : fk RX4 44 6 0 := ⟨(RX6, TX6, 15), rfl, by decide, rfl, tyX6_ok, rfl, uX6, nmX6, Or.inr ⟨"VoiceTonight", ni 228 (by decide +kernel) rfl⟩⟩
theorem k_X4_46 : fk RX4 46 3 3 := ⟨(RX3, TX3, 8), rfl, by decide, rfl, tyX3_ok, rfl, uX3, nmX3, Or.inr ⟨"VoiceTonight", ni 307 (by decide +kernel) rfl⟩⟩
theorem k_X4_49 : fk RX4 49 6 2 := ⟨(RX6, TX6, 15), rfl, by decide, rfl, tyX6_ok, rfl, uX6, nmX6, Or.inr ⟨"VoiceTonight", ni 233 (by decide +kernel) rfl⟩⟩
theorem k_X5_41 : fk RX5 41 5 7 := ⟨(RX5, TX5, 8), rfl, by decide, rfl, tyX5_ok, rfl, uX5, nmX5, Or.inl (wi 170 (by decide +kernel) rfl)⟩
theorem k_X5_70 : fk RX5 70 6 11 := ⟨(RX6, TX6, 15), rfl, by decide, rfl, tyX6_ok, rfl, uX6, nmX6, Or.inr ⟨"VoiceTonight", ni 251 (by decide +kernel) rfl⟩⟩
theorem k_X5_77 : fk RX5 77 0 6 := ⟨(RX0, TX0, 10), rfl, by decide, rfl, tyX0_ok, rfl, uX0, nmX0, Or.inr ⟨"VoiceTonight", ni 137 (by decide +kernel) rfl⟩⟩
theorem k_X5_130 : fk RX5 130 7 4 := ⟨(RX7, TX7, 6), rfl, by decide, rfl, tyX7_ok, rfl, uX7, nmX7, Or.inr ⟨"VoiceTonight", ni 106 (by decide +kernel) rfl⟩⟩
theorem k_X9_23 : fk RX9 23 9 3 := ⟨(RX9, TX9, 11), rfl, by decide, rfl, tyX9_ok, rfl, uX9, nmX9, Or.inl (wi 406 (by decide +kernel) rfl)⟩
theorem k_X9_34 : fk RX9 34 9 5 := ⟨(RX9, TX9, 11), rfl, by decide, rfl, tyX9_ok, rfl, uX9, nmX9, Or.inl (wi 408 (by decide +kernel) rfl)⟩
theorem k_X9_50 : fk RX9 50 9 8 := ⟨(RX9, TX9, 11), rfl, by decide, rfl, tyX9_ok, rfl, uX9, nmX9, Or.inl (wi 411 (by decide +kernel) rfl)⟩
theorem k_X9_76 : fk RX9 76 5 7 := ⟨(RX5, TX5, 8), rfl, by decide, rfl, tyX5_ok, rfl, uX5, nmX5, Or.inr ⟨"VoiceTonight", ni 171 (by decide +kernel) rfl⟩⟩
theorem k_X9_262 : fk RX9 262 4 1 := ⟨(RX4, TX4, 2), rfl, by decide, rfl, tyX4_ok, rfl, uX4, nmX4, Or.inr ⟨"VoiceTonight", ni 350 (by decide +kernel) rfl⟩⟩
theorem p_X5_12 (y : MethodName) (hy : y.cls = RX5) (hn : y.name = "<init>") : fw y 12 5 0 := ⟨by rw [hy]; exact k_X5_12, fun r hr => by cases hr; exact Or.inr ⟨hn, hy.symm, by rw [hy]; exact wi 163 (by decide +kernel) rfl⟩⟩
theorem p_X5_21 (y : MethodName) (hy : y.cls = RX5) (hn : y.name = "<init>") : fw y 21 5 1 := ⟨by rw [hy]; exact k_X5_21, fun r hr => by cases hr; exact Or.inr ⟨hn, hy.symm, by rw [hy]; exact wi 164 (by decide +kernel) rfl⟩⟩
theorem p_X5_41 (y : MethodName) (hy : y.cls = RX5) : fw y 41 5 7 := ⟨by rw [hy]; exact k_X5_41, fun r hr => by cases hr; exact Or.inl rfl⟩
theorem p_X7_15 (y : MethodName) (hy : y.cls = RX7) (hn : y.name = "<init>") : fw y 15 7 0 := ⟨by rw [hy]; exact k_X7_15, fun r hr => by cases hr; exact Or.inr ⟨hn, hy.symm, by rw [hy]; exact wi 97 (by decide +kernel) rfl⟩⟩
theorem p_X7_23 (y : MethodName) (hy : y.cls = RX7) : fw y 23 7 2 := ⟨by rw [hy]; exact k_X7_23, fun r hr => by cases hr; exact Or.inl rfl⟩
theorem p_X9_9 (y : MethodName) (hy : y.cls = RX9) (hn : y.name = "<init>") : fw y 9 9 0 := ⟨by rw [hy]; exact k_X9_9, fun r hr => by cases hr; exact Or.inr ⟨hn, hy.symm, by rw [hy]; exact wi 403 (by decide +kernel) rfl⟩⟩
theorem p_X9_17 (y : MethodName) (hy : y.cls = RX9) : fw y 17 9 2 := ⟨by rw [hy]; exact k_X9_17, fun r hr => by cases hr; exact Or.inl rfl⟩
theorem p_X9_23 (y : MethodName) (hy : y.cls = RX9) (hn : y.name = "<init>") : fw y 23 9 3 := ⟨by rw [hy]; exact k_X9_23, fun r hr => by cases hr; exact Or.inr ⟨hn, hy.symm, by rw [hy]; exact wi 406 (by decide +kernel) rfl⟩⟩
theorem p_X9_30 (y : MethodName) (hy : y.cls = RX9) : fw y 30 9 4 := ⟨by rw [hy]; exact k_X9_30, fun r hr => by cases hr; exact Or.inl rfl⟩
theorem p_X9_34 (y : MethodName) (hy : y.cls = RX9) : fw y 34 9 5 := ⟨by rw [hy]; exact k_X9_34, fun r hr => by cases hr; exact Or.inl rfl⟩
theorem p_X9_40 (y : MethodName) (hy : y.cls = RX9) (hn : y.name = "<init>") : fw y 40 9 6 := ⟨by rw [hy]; exact k_X9_40, fun r hr => by cases hr; exact Or.inr ⟨hn, hy.symm, by rw [hy]; exact wi 409 (by decide +kernel) rfl⟩⟩
theorem p_X9_44 (y : MethodName) (hy : y.cls = RX9) (hn : y.name = "<init>") : fw y 44 9 7 := ⟨by rw [hy]; exact k_X9_44, fun r hr => by cases hr; exact Or.inr ⟨hn, hy.symm, by rw [hy]; exact wi 410 (by decide +kernel) rfl⟩⟩
theorem p_X9_50 (y : MethodName) (hy : y.cls = RX9) (hn : y.name = "<init>") : fw y 50 9 8 := ⟨by rw [hy]; exact k_X9_50, fun r hr => by cases hr; exact Or.inr ⟨hn, hy.symm, by rw [hy]; exact wi 411 (by decide +kernel) rfl⟩⟩
theorem p_X9_57 (y : MethodName) (hy : y.cls = RX9) (hn : y.name = "<init>") : fw y 57 9 9 := ⟨by rw [hy]; exact k_X9_57, fun r hr => by cases hr; exact Or.inr ⟨hn, hy.symm, by rw [hy]; exact wi 412 (by decide +kernel) rfl⟩⟩
theorem p_X9_64 (y : MethodName) (hy : y.cls = RX9) (hn : y.name = "<init>") : fw y 64 9 10 := ⟨by rw [hy]; exact k_X9_64, fun r hr => by cases hr; exact Or.inr ⟨hn, hy.symm, by rw [hy]; exact wi 413 (by decide +kernel) rfl⟩⟩
theorem n_X5_9 : nk RX5 9 7 := ⟨(RX7, TX7, 6), rfl, rfl, tyX7_ok, uX7, fdX7, wi 35 (by decide +kernel) rfl, wi 36 (by decide +kernel) rfl, wi 3 (by decide +kernel) rfl⟩
theorem n_X5_18 : nk RX5 18 0 := ⟨(RX0, TX0, 10), rfl, rfl, tyX0_ok, uX0, fdX0, wi 124 (by decide +kernel) rfl, wi 125 (by decide +kernel) rfl, wi 8 (by decide +kernel) rfl⟩
theorem n_X9_20 : nk RX9 20 5 := ⟨(RX5, TX5, 8), rfl, rfl, tyX5_ok, uX5, fdX5, wi 29 (by decide +kernel) rfl, wi 30 (by decide +kernel) rfl, wi 2 (by decide +kernel) rfl⟩
theorem n_X9_27 : nk RX9 27 6 := ⟨(RX6, TX6, 15), rfl, rfl, tyX6_ok, uX6, fdX6, wi 189 (by decide +kernel) rfl, wi 190 (by decide +kernel) rfl, wi 9 (by decide +kernel) rfl⟩
theorem n_X9_37 : nk RX9 37 3 := ⟨(RX3, TX3, 8), rfl, rfl, tyX3_ok, uX3, fdX3, wi 291 (by decide +kernel) rfl, wi 292 (by decide +kernel) rfl, wi 11 (by decide +kernel) rfl⟩
theorem n_X9_47 : nk RX9 47 4 := ⟨(RX4, TX4, 2), rfl, rfl, tyX4_ok, uX4, fdX4, wi 339 (by decide +kernel) rfl, wi 340 (by decide +kernel) rfl, wi 12 (by decide +kernel) rfl⟩
theorem n_X9_54 : nk RX9 54 2 := ⟨(RX2, TX2, 5), rfl, rfl, tyX2_ok, uX2, fdX2, wi 356 (by decide +kernel) rfl, wi 357 (by decide +kernel) rfl, wi 13 (by decide +kernel) rfl⟩
theorem n_X9_61 : nk RX9 61 8 := ⟨(RX8, TX8, 4), rfl, rfl, tyX8_ok, uX8, fdX8, wi 382 (by decide +kernel) rfl, wi 383 (by decide +kernel) rfl, wi 14 (by decide +kernel) rfl⟩
theorem o_X5_3 : Cond.methodLink RX5 3 objectInit ∈ gws ∧ Cond.instanceMethod objectInit ∈ gws ∧ Cond.code objectInit ⟨#[0xb1]⟩ 1 none ∈ gws := ⟨wi 34 (by decide +kernel) rfl, wi 27 (by decide +kernel) rfl, wi 28 (by decide +kernel) rfl⟩
theorem o_X7_5 : Cond.methodLink RX7 5 objectInit ∈ gws ∧ Cond.instanceMethod objectInit ∈ gws ∧ Cond.code objectInit ⟨#[0xb1]⟩ 1 none ∈ gws := ⟨wi 40 (by decide +kernel) rfl, wi 27 (by decide +kernel) rfl, wi 28 (by decide +kernel) rfl⟩
theorem o_X9_1 : Cond.methodLink RX9 1 objectInit ∈ gws ∧ Cond.instanceMethod objectInit ∈ gws ∧ Cond.code objectInit ⟨#[0xb1]⟩ 1 none ∈ gws := ⟨wi 26 (by decide +kernel) rfl, wi 27 (by decide +kernel) rfl, wi 28 (by decide +kernel) rfl⟩
theorem m_J0_charAt_5068e : mk9 yJ0_charAt_5068e cJ0_charAt_5068e 2 (some .char) 1 := ⟨wi 58 (by decide +kernel) rfl, wi 4 (by decide +kernel) rfl, ⟨by decide +kernel, by decide +kernel⟩, by decide +kernel⟩
theorem i_J0_charAt_5068e : Cond.instanceMethod yJ0_charAt_5068e ∈ gws := wi 56 (by decide +kernel) rfl
theorem e_J0_charAt_5068e : Cond.selects RJ0 yJ0_charAt_5068e yJ0_charAt_5068e ∈ gws := wi 57 (by decide +kernel) rfl
theorem m_J0_checkIndex_df160 : mk9 yJ0_checkIndex_df160 cJ0_checkIndex_df160 2 (none) 2 := ⟨wi 68 (by decide +kernel) rfl, wi 4 (by decide +kernel) rfl, ⟨by decide +kernel, by decide +kernel⟩, by decide +kernel⟩
theorem z_J0_checkIndex_df160 : Cond.static yJ0_checkIndex_df160 ∈ gws := wi 67 (by decide +kernel) rfl
theorem m_J0_coder_7d493 : mk9 yJ0_coder_7d493 cJ0_coder_7d493 1 (some .byte) 0 := ⟨wi 52 (by decide +kernel) rfl, wi 4 (by decide +kernel) rfl, ⟨by decide +kernel, by decide +kernel⟩, by decide +kernel⟩
theorem i_J0_coder_7d493 : Cond.instanceMethod yJ0_coder_7d493 ∈ gws := wi 50 (by decide +kernel) rfl
theorem e_J0_coder_7d493 : Cond.selects RJ0 yJ0_coder_7d493 yJ0_coder_7d493 ∈ gws := wi 51 (by decide +kernel) rfl
theorem m_J0_indexOf_0f7a4 : mk9 yJ0_indexOf_0f7a4 cJ0_indexOf_0f7a4 2 (some .int) 1 := ⟨wi 502 (by decide +kernel) rfl, wi 4 (by decide +kernel) rfl, ⟨by decide +kernel, by decide +kernel⟩, by decide +kernel⟩
theorem i_J0_indexOf_0f7a4 : Cond.instanceMethod yJ0_indexOf_0f7a4 ∈ gws := wi 500 (by decide +kernel) rfl
theorem e_J0_indexOf_0f7a4 : Cond.selects RJ0 yJ0_indexOf_0f7a4 yJ0_indexOf_0f7a4 ∈ gws := wi 501 (by decide +kernel) rfl
theorem m_J0_indexOf_7cf53 : mk9 yJ0_indexOf_7cf53 cJ0_indexOf_7cf53 3 (some .int) 2 := ⟨wi 506 (by decide +kernel) rfl, wi 4 (by decide +kernel) rfl, ⟨by decide +kernel, by decide +kernel⟩, by decide +kernel⟩
theorem i_J0_indexOf_7cf53 : Cond.instanceMethod yJ0_indexOf_7cf53 ∈ gws := wi 504 (by decide +kernel) rfl
theorem e_J0_indexOf_7cf53 : Cond.selects RJ0 yJ0_indexOf_7cf53 yJ0_indexOf_7cf53 ∈ gws := wi 505 (by decide +kernel) rfl
theorem m_J0_isLatin1_aae02 : mk9 yJ0_isLatin1_aae02 cJ0_isLatin1_aae02 1 (some .boolean) 0 := ⟨wi 62 (by decide +kernel) rfl, wi 4 (by decide +kernel) rfl, ⟨by decide +kernel, by decide +kernel⟩, by decide +kernel⟩
theorem i_J0_isLatin1_aae02 : Cond.instanceMethod yJ0_isLatin1_aae02 ∈ gws := wi 60 (by decide +kernel) rfl
theorem e_J0_isLatin1_aae02 : Cond.selects RJ0 yJ0_isLatin1_aae02 yJ0_isLatin1_aae02 ∈ gws := wi 61 (by decide +kernel) rfl
theorem m_J0_length_8abf5 : mk9 yJ0_length_8abf5 cJ0_length_8abf5 1 (some .int) 0 := ⟨wi 48 (by decide +kernel) rfl, wi 4 (by decide +kernel) rfl, ⟨by decide +kernel, by decide +kernel⟩, by decide +kernel⟩
theorem i_J0_length_8abf5 : Cond.instanceMethod yJ0_length_8abf5 ∈ gws := wi 46 (by decide +kernel) rfl
theorem e_J0_length_8abf5 : Cond.selects RJ0 yJ0_length_8abf5 yJ0_length_8abf5 ∈ gws := wi 47 (by decide +kernel) rfl
theorem m_J1_canEncode_9a6ad : mk9 yJ1_canEncode_9a6ad cJ1_canEncode_9a6ad 1 (some .boolean) 1 := ⟨wi 513 (by decide +kernel) rfl, wi 5 (by decide +kernel) rfl, ⟨by decide +kernel, by decide +kernel⟩, by decide +kernel⟩
theorem z_J1_canEncode_9a6ad : Cond.static yJ1_canEncode_9a6ad ∈ gws := wi 512 (by decide +kernel) rfl
theorem m_J1_charAt_3b067 : mk9 yJ1_charAt_3b067 cJ1_charAt_3b067 2 (some .char) 2 := ⟨wi 65 (by decide +kernel) rfl, wi 5 (by decide +kernel) rfl, ⟨by decide +kernel, by decide +kernel⟩, by decide +kernel⟩
theorem z_J1_charAt_3b067 : Cond.static yJ1_charAt_3b067 ∈ gws := wi 64 (by decide +kernel) rfl
theorem m_J1_indexOfChar_4cfef : mk9 yJ1_indexOfChar_4cfef cJ1_indexOfChar_4cfef 6 (some .int) 4 := ⟨wi 522 (by decide +kernel) rfl, wi 5 (by decide +kernel) rfl, ⟨by decide +kernel, by decide +kernel⟩, by decide +kernel⟩
theorem z_J1_indexOfChar_4cfef : Cond.static yJ1_indexOfChar_4cfef ∈ gws := wi 521 (by decide +kernel) rfl
theorem m_J1_indexOf_4cfef : mk9 yJ1_indexOf_4cfef cJ1_indexOf_4cfef 4 (some .int) 4 := ⟨wi 510 (by decide +kernel) rfl, wi 5 (by decide +kernel) rfl, ⟨by decide +kernel, by decide +kernel⟩, by decide +kernel⟩
theorem z_J1_indexOf_4cfef : Cond.static yJ1_indexOf_4cfef ∈ gws := wi 509 (by decide +kernel) rfl
theorem m_J3_checkIndex_8e157 : mk9 yJ3_checkIndex_8e157 cJ3_checkIndex_8e157 3 (some .int) 3 := ⟨wi 73 (by decide +kernel) rfl, wi 6 (by decide +kernel) rfl, ⟨by decide +kernel, by decide +kernel⟩, by decide +kernel⟩
theorem z_J3_checkIndex_8e157 : Cond.static yJ3_checkIndex_8e157 ∈ gws := wi 72 (by decide +kernel) rfl
theorem m_X0_init : mk9 yX0_init cX0_init 1 (none) 0 := ⟨wi 128 (by decide +kernel) rfl, wi 8 (by decide +kernel) rfl, ⟨by decide +kernel, by decide +kernel⟩, by decide +kernel⟩
theorem i_X0_init : Cond.instanceMethod yX0_init ∈ gws := wi 127 (by decide +kernel) rfl
theorem m_X0_take : mk9 yX0_take cX0_take 3 (some .int) 2 := ⟨wi 579 (by decide +kernel) rfl, wi 8 (by decide +kernel) rfl, ⟨by decide +kernel, by decide +kernel⟩, by decide +kernel⟩
theorem i_X0_take : Cond.instanceMethod yX0_take ∈ gws := wi 577 (by decide +kernel) rfl
theorem e_X0_take : Cond.selects RX0 yX0_take yX0_take ∈ gws := wi 578 (by decide +kernel) rfl
theorem m_X2_forgetAll : mk9 yX2_forgetAll cX2_forgetAll 1 (none) 0 := ⟨wi 719 (by decide +kernel) rfl, wi 13 (by decide +kernel) rfl, ⟨by decide +kernel, by decide +kernel⟩, by decide +kernel⟩
theorem i_X2_forgetAll : Cond.instanceMethod yX2_forgetAll ∈ gws := wi 717 (by decide +kernel) rfl
theorem e_X2_forgetAll : Cond.selects RX2 yX2_forgetAll yX2_forgetAll ∈ gws := wi 718 (by decide +kernel) rfl
theorem m_X2_init : mk9 yX2_init cX2_init 2 (none) 0 := ⟨wi 360 (by decide +kernel) rfl, wi 13 (by decide +kernel) rfl, ⟨by decide +kernel, by decide +kernel⟩, by decide +kernel⟩
theorem i_X2_init : Cond.instanceMethod yX2_init ∈ gws := wi 359 (by decide +kernel) rfl
theorem m_X4_fewest : mk9 yX4_fewest cX4_fewest 6 (some .int) 3 := ⟨wi 973 (by decide +kernel) rfl, wi 12 (by decide +kernel) rfl, ⟨by decide +kernel, by decide +kernel⟩, by decide +kernel⟩
theorem i_X4_fewest : Cond.instanceMethod yX4_fewest ∈ gws := wi 971 (by decide +kernel) rfl
theorem e_X4_fewest : Cond.selects RX4 yX4_fewest yX4_fewest ∈ gws := wi 972 (by decide +kernel) rfl
theorem m_X4_init : mk9 yX4_init cX4_init 2 (none) 0 := ⟨wi 343 (by decide +kernel) rfl, wi 12 (by decide +kernel) rfl, ⟨by decide +kernel, by decide +kernel⟩, by decide +kernel⟩
theorem i_X4_init : Cond.instanceMethod yX4_init ∈ gws := wi 342 (by decide +kernel) rfl
theorem m_X4_reaches : mk9 yX4_reaches cX4_reaches 9 (some .boolean) 6 := ⟨wi 985 (by decide +kernel) rfl, wi 12 (by decide +kernel) rfl, ⟨by decide +kernel, by decide +kernel⟩, by decide +kernel⟩
theorem z_X4_reaches : Cond.static yX4_reaches ∈ gws := wi 984 (by decide +kernel) rfl
theorem m_X5_formOf : mk9 yX5_formOf cX5_formOf 1 (some (.object "java/lang/String")) 1 := ⟨wi 635 (by decide +kernel) rfl, wi 2 (by decide +kernel) rfl, ⟨by decide +kernel, by decide +kernel⟩, by decide +kernel⟩
theorem z_X5_formOf : Cond.static yX5_formOf ∈ gws := wi 634 (by decide +kernel) rfl
theorem m_X5_init : mk9 yX5_init cX5_init 1 (none) 0 := ⟨wi 33 (by decide +kernel) rfl, wi 2 (by decide +kernel) rfl, ⟨by decide +kernel, by decide +kernel⟩, by decide +kernel⟩
theorem i_X5_init : Cond.instanceMethod yX5_init ∈ gws := wi 32 (by decide +kernel) rfl
theorem m_X5_openTell : mk9 yX5_openTell cX5_openTell 3 (some .int) 1 := ⟨wi 565 (by decide +kernel) rfl, wi 2 (by decide +kernel) rfl, ⟨by decide +kernel, by decide +kernel⟩, by decide +kernel⟩
theorem i_X5_openTell : Cond.instanceMethod yX5_openTell ∈ gws := wi 564 (by decide +kernel) rfl
theorem e_X5_openTell : Cond.selects RX5 yX5_openTell yX5_openTell ∈ gws := vi (q := (yX5_openTell, 8)) 5 (by decide +kernel)
theorem m_X5_readInto : mk9 yX5_readInto cX5_readInto 6 (some .int) 3 := ⟨wi 456 (by decide +kernel) rfl, wi 2 (by decide +kernel) rfl, ⟨by decide +kernel, by decide +kernel⟩, by decide +kernel⟩
theorem i_X5_readInto : Cond.instanceMethod yX5_readInto ∈ gws := wi 454 (by decide +kernel) rfl
theorem e_X5_readInto : Cond.selects RX5 yX5_readInto yX5_readInto ∈ gws := wi 455 (by decide +kernel) rfl
theorem m_X5_take : mk9 yX5_take cX5_take 3 (some .int) 1 := ⟨wi 561 (by decide +kernel) rfl, wi 2 (by decide +kernel) rfl, ⟨by decide +kernel, by decide +kernel⟩, by decide +kernel⟩
theorem i_X5_take : Cond.instanceMethod yX5_take ∈ gws := wi 560 (by decide +kernel) rfl
theorem e_X5_take : Cond.selects RX5 yX5_take yX5_take ∈ gws := vi (q := (yX5_take, 8)) 4 (by decide +kernel)
theorem m_X5_takeInForm : mk9 yX5_takeInForm cX5_takeInForm 5 (some .int) 1 := ⟨wi 632 (by decide +kernel) rfl, wi 2 (by decide +kernel) rfl, ⟨by decide +kernel, by decide +kernel⟩, by decide +kernel⟩
theorem i_X5_takeInForm : Cond.instanceMethod yX5_takeInForm ∈ gws := wi 631 (by decide +kernel) rfl
theorem e_X5_takeInForm : Cond.selects RX5 yX5_takeInForm yX5_takeInForm ∈ gws := vi (q := (yX5_takeInForm, 8)) 14 (by decide +kernel)
theorem m_X5_takeName : mk9 yX5_takeName cX5_takeName 2 (none) 1 := ⟨wi 645 (by decide +kernel) rfl, wi 2 (by decide +kernel) rfl, ⟨by decide +kernel, by decide +kernel⟩, by decide +kernel⟩
theorem i_X5_takeName : Cond.instanceMethod yX5_takeName ∈ gws := wi 644 (by decide +kernel) rfl
theorem e_X5_takeName : Cond.selects RX5 yX5_takeName yX5_takeName ∈ gws := vi (q := (yX5_takeName, 8)) 15 (by decide +kernel)
theorem m_X5_takeNumber : mk9 yX5_takeNumber cX5_takeNumber 3 (none) 2 := ⟨wi 692 (by decide +kernel) rfl, wi 2 (by decide +kernel) rfl, ⟨by decide +kernel, by decide +kernel⟩, by decide +kernel⟩
theorem i_X5_takeNumber : Cond.instanceMethod yX5_takeNumber ∈ gws := wi 691 (by decide +kernel) rfl
theorem e_X5_takeNumber : Cond.selects RX5 yX5_takeNumber yX5_takeNumber ∈ gws := vi (q := (yX5_takeNumber, 8)) 18 (by decide +kernel)
theorem m_X6_begin : mk9 yX6_begin cX6_begin 2 (none) 1 := ⟨wi 712 (by decide +kernel) rfl, wi 9 (by decide +kernel) rfl, ⟨by decide +kernel, by decide +kernel⟩, by decide +kernel⟩
theorem i_X6_begin : Cond.instanceMethod yX6_begin ∈ gws := wi 710 (by decide +kernel) rfl
theorem e_X6_begin : Cond.selects RX6 yX6_begin yX6_begin ∈ gws := wi 711 (by decide +kernel) rfl
theorem m_X6_clear : mk9 yX6_clear cX6_clear 1 (none) 0 := ⟨wi 460 (by decide +kernel) rfl, wi 9 (by decide +kernel) rfl, ⟨by decide +kernel, by decide +kernel⟩, by decide +kernel⟩
theorem i_X6_clear : Cond.instanceMethod yX6_clear ∈ gws := wi 458 (by decide +kernel) rfl
theorem e_X6_clear : Cond.selects RX6 yX6_clear yX6_clear ∈ gws := wi 459 (by decide +kernel) rfl
theorem m_X6_hopelessIn : mk9 yX6_hopelessIn cX6_hopelessIn 5 (some .int) 1 := ⟨wi 977 (by decide +kernel) rfl, wi 9 (by decide +kernel) rfl, ⟨by decide +kernel, by decide +kernel⟩, by decide +kernel⟩
theorem i_X6_hopelessIn : Cond.instanceMethod yX6_hopelessIn ∈ gws := wi 975 (by decide +kernel) rfl
theorem e_X6_hopelessIn : Cond.selects RX6 yX6_hopelessIn yX6_hopelessIn ∈ gws := wi 976 (by decide +kernel) rfl
theorem m_X6_init : mk9 yX6_init cX6_init 1 (none) 0 := ⟨wi 193 (by decide +kernel) rfl, wi 9 (by decide +kernel) rfl, ⟨by decide +kernel, by decide +kernel⟩, by decide +kernel⟩
theorem i_X6_init : Cond.instanceMethod yX6_init ∈ gws := wi 192 (by decide +kernel) rfl
theorem m_X6_lackedByAny : mk9 yX6_lackedByAny cX6_lackedByAny 5 (some .int) 2 := ⟨wi 989 (by decide +kernel) rfl, wi 9 (by decide +kernel) rfl, ⟨by decide +kernel, by decide +kernel⟩, by decide +kernel⟩
theorem i_X6_lackedByAny : Cond.instanceMethod yX6_lackedByAny ∈ gws := wi 987 (by decide +kernel) rfl
theorem e_X6_lackedByAny : Cond.selects RX6 yX6_lackedByAny yX6_lackedByAny ∈ gws := wi 988 (by decide +kernel) rfl
theorem m_X7_init : mk9 yX7_init cX7_init 1 (none) 0 := ⟨wi 39 (by decide +kernel) rfl, wi 3 (by decide +kernel) rfl, ⟨by decide +kernel, by decide +kernel⟩, by decide +kernel⟩
theorem i_X7_init : Cond.instanceMethod yX7_init ∈ gws := wi 38 (by decide +kernel) rfl
theorem m_X7_isBlank : mk9 yX7_isBlank cX7_isBlank 1 (some .boolean) 1 := ⟨wi 479 (by decide +kernel) rfl, wi 3 (by decide +kernel) rfl, ⟨by decide +kernel, by decide +kernel⟩, by decide +kernel⟩
theorem z_X7_isBlank : Cond.static yX7_isBlank ∈ gws := wi 478 (by decide +kernel) rfl
theorem m_X7_next : mk9 yX7_next cX7_next 4 (some .boolean) 2 := ⟨wi 476 (by decide +kernel) rfl, wi 3 (by decide +kernel) rfl, ⟨by decide +kernel, by decide +kernel⟩, by decide +kernel⟩
theorem i_X7_next : Cond.instanceMethod yX7_next ∈ gws := wi 474 (by decide +kernel) rfl
theorem e_X7_next : Cond.selects RX7 yX7_next yX7_next ∈ gws := wi 475 (by decide +kernel) rfl
theorem m_X7_rewind : mk9 yX7_rewind cX7_rewind 1 (none) 0 := ⟨wi 472 (by decide +kernel) rfl, wi 3 (by decide +kernel) rfl, ⟨by decide +kernel, by decide +kernel⟩, by decide +kernel⟩
theorem i_X7_rewind : Cond.instanceMethod yX7_rewind ∈ gws := wi 470 (by decide +kernel) rfl
theorem e_X7_rewind : Cond.selects RX7 yX7_rewind yX7_rewind ∈ gws := wi 471 (by decide +kernel) rfl
theorem m_X7_takeDigits : mk9 yX7_takeDigits cX7_takeDigits 3 (none) 2 := ⟨wi 497 (by decide +kernel) rfl, wi 3 (by decide +kernel) rfl, ⟨by decide +kernel, by decide +kernel⟩, by decide +kernel⟩
theorem i_X7_takeDigits : Cond.instanceMethod yX7_takeDigits ∈ gws := wi 496 (by decide +kernel) rfl
theorem e_X7_takeDigits : Cond.selects RX7 yX7_takeDigits yX7_takeDigits ∈ gws := vi (q := (yX7_takeDigits, 6)) 3 (by decide +kernel)
theorem m_X7_takeLetters : mk9 yX7_takeLetters cX7_takeLetters 3 (none) 2 := ⟨wi 486 (by decide +kernel) rfl, wi 3 (by decide +kernel) rfl, ⟨by decide +kernel, by decide +kernel⟩, by decide +kernel⟩
theorem i_X7_takeLetters : Cond.instanceMethod yX7_takeLetters ∈ gws := wi 485 (by decide +kernel) rfl
theorem e_X7_takeLetters : Cond.selects RX7 yX7_takeLetters yX7_takeLetters ∈ gws := vi (q := (yX7_takeLetters, 6)) 1 (by decide +kernel)
theorem m_X7_wordCodes : mk9 yX7_wordCodes cX7_wordCodes 6 (some (.array .long)) 0 := ⟨wi 43 (by decide +kernel) rfl, wi 3 (by decide +kernel) rfl, ⟨by decide +kernel, by decide +kernel⟩, by decide +kernel⟩
theorem z_X7_wordCodes : Cond.static yX7_wordCodes ∈ gws := wi 42 (by decide +kernel) rfl
theorem m_X8_init : mk9 yX8_init cX8_init 1 (none) 0 := ⟨wi 386 (by decide +kernel) rfl, wi 14 (by decide +kernel) rfl, ⟨by decide +kernel, by decide +kernel⟩, by decide +kernel⟩
theorem i_X8_init : Cond.instanceMethod yX8_init ∈ gws := wi 385 (by decide +kernel) rfl
theorem g_J0_9 : Cond.fieldLink RJ0 9 "java/lang/String" "value" "[B" ∈ gws := wi 1796 (by decide +kernel) rfl
theorem g_J0_15 : Cond.fieldLink RJ0 15 "java/lang/String" "coder" "B" ∈ gws := wi 1797 (by decide +kernel) rfl
theorem g_J0_38 : Cond.fieldLink RJ0 38 "java/lang/String" "COMPACT_STRINGS" "Z" ∈ gws := wi 53 (by decide +kernel) rfl
theorem g_J0_1053 : Cond.fieldLink RJ0 1053 "jdk/internal/util/Preconditions" "SIOOBE_FORMATTER" "Ljava/util/function/BiFunction;" ∈ gws := wi 69 (by decide +kernel) rfl
theorem mm_J1_38 : Cond.methodLink RJ1 38 Lib.Math.min.name ∈ gws ∧ Cond.static Lib.Math.min.name ∈ gws ∧ Cond.initialized "java/lang/Math" ∈ gws ∧ Cond.code Lib.Math.min.name Lib.Math.min.code 2 (some .int) ∈ gws := ⟨wi 517 (by decide +kernel) rfl, wi 518 (by decide +kernel) rfl, wi 17 (by decide +kernel) rfl, wi 519 (by decide +kernel) rfl⟩
theorem mm_J1_92 : Cond.methodLink RJ1 92 Lib.Math.max.name ∈ gws ∧ Cond.static Lib.Math.max.name ∈ gws ∧ Cond.initialized "java/lang/Math" ∈ gws ∧ Cond.code Lib.Math.max.name Lib.Math.max.code 2 (some .int) ∈ gws := ⟨wi 514 (by decide +kernel) rfl, wi 515 (by decide +kernel) rfl, wi 17 (by decide +kernel) rfl, wi 516 (by decide +kernel) rfl⟩
theorem l_J0_335 : lk9 RJ0 335 yJ0_coder_7d493 := Or.inl (wi 49 (by decide +kernel) rfl)
theorem l_J0_492 : lk9 RJ0 492 yJ0_isLatin1_aae02 := Or.inl (wi 59 (by decide +kernel) rfl)
theorem l_J0_495 : lk9 RJ0 495 yJ1_charAt_3b067 := Or.inl (wi 63 (by decide +kernel) rfl)
theorem l_J0_505 : lk9 RJ0 505 yJ0_length_8abf5 := Or.inl (wi 507 (by decide +kernel) rfl)
theorem l_J0_633 : lk9 RJ0 633 yJ0_indexOf_7cf53 := Or.inl (wi 503 (by decide +kernel) rfl)
theorem l_J0_637 : lk9 RJ0 637 yJ1_indexOf_4cfef := Or.inl (wi 508 (by decide +kernel) rfl)
theorem l_J0_1059 : lk9 RJ0 1059 yJ3_checkIndex_8e157 := Or.inl (wi 71 (by decide +kernel) rfl)
theorem l_J1_9 : lk9 RJ1 9 yJ0_checkIndex_df160 := Or.inl (wi 66 (by decide +kernel) rfl)
theorem l_J1_88 : lk9 RJ1 88 yJ1_canEncode_9a6ad := Or.inl (wi 511 (by decide +kernel) rfl)
theorem l_J1_95 : lk9 RJ1 95 yJ1_indexOfChar_4cfef := Or.inl (wi 520 (by decide +kernel) rfl)
theorem l_X4_28 : lk9 RX4 28 yX6_hopelessIn := Or.inl (wi 974 (by decide +kernel) rfl)
theorem l_X4_32 : lk9 RX4 32 yX3_become := Or.inl (wi 982 (by decide +kernel) rfl)
theorem l_X4_36 : lk9 RX4 36 yX4_reaches := Or.inl (wi 983 (by decide +kernel) rfl)
theorem l_X4_40 : lk9 RX4 40 yX6_lackedByAny := Or.inl (wi 986 (by decide +kernel) rfl)
theorem l_X4_52 : lk9 RX4 52 yX6_passEvening := Or.inl (wi 990 (by decide +kernel) rfl)
theorem l_X5_11 : lk9 RX5 11 yX7_init := Or.inr ⟨"VoiceTonight", ni 37 (by decide +kernel) rfl⟩
theorem l_X5_20 : lk9 RX5 20 yX0_init := Or.inr ⟨"VoiceTonight", ni 126 (by decide +kernel) rfl⟩
theorem l_X5_44 : lk9 RX5 44 yX6_clear := Or.inl (wi 457 (by decide +kernel) rfl)
theorem l_X5_49 : lk9 RX5 49 yX7_rewind := Or.inl (wi 469 (by decide +kernel) rfl)
theorem l_X5_52 : lk9 RX5 52 yX7_next := Or.inl (wi 473 (by decide +kernel) rfl)
theorem l_X5_56 : lk9 RX5 56 yX5_take := Or.inl (wi 558 (by decide +kernel) rfl)
theorem l_X5_63 : lk9 RX5 63 yX5_openTell := Or.inl (wi 562 (by decide +kernel) rfl)
theorem l_X5_74 : lk9 RX5 74 yX0_take := Or.inl (wi 576 (by decide +kernel) rfl)
theorem l_X5_81 : lk9 RX5 81 yX5_takeInForm := Or.inl (wi 629 (by decide +kernel) rfl)
theorem l_X5_112 : lk9 RX5 112 yX5_formOf := Or.inl (wi 633 (by decide +kernel) rfl)
theorem l_X5_116 : lk9 RX5 116 yJ0_length_8abf5 := Or.inl (wi 640 (by decide +kernel) rfl)
theorem l_X5_122 : lk9 RX5 122 yJ0_charAt_5068e := Or.inl (wi 641 (by decide +kernel) rfl)
theorem l_X5_126 : lk9 RX5 126 yX5_takeName := Or.inl (wi 642 (by decide +kernel) rfl)
theorem l_X5_133 : lk9 RX5 133 yX5_takeNumber := Or.inl (wi 689 (by decide +kernel) rfl)
theorem l_X7_11 : lk9 RX7 11 yX7_wordCodes := Or.inl (wi 41 (by decide +kernel) rfl)
theorem l_X7_38 : lk9 RX7 38 yJ0_length_8abf5 := Or.inl (wi 45 (by decide +kernel) rfl)
theorem l_X7_44 : lk9 RX7 44 yJ0_charAt_5068e := Or.inl (wi 55 (by decide +kernel) rfl)
theorem l_X7_54 : lk9 RX7 54 yX7_isBlank := Or.inl (wi 477 (by decide +kernel) rfl)
theorem l_X7_61 : lk9 RX7 61 yX7_takeLetters := Or.inl (wi 483 (by decide +kernel) rfl)
theorem l_X7_68 : lk9 RX7 68 yX7_takeDigits := Or.inl (wi 494 (by decide +kernel) rfl)
theorem l_X7_73 : lk9 RX7 73 yJ0_indexOf_0f7a4 := Or.inl (wi 499 (by decide +kernel) rfl)
theorem l_X9_22 : lk9 RX9 22 yX5_init := Or.inr ⟨"VoiceTonight", ni 31 (by decide +kernel) rfl⟩
theorem l_X9_29 : lk9 RX9 29 yX6_init := Or.inr ⟨"VoiceTonight", ni 191 (by decide +kernel) rfl⟩
theorem l_X9_39 : lk9 RX9 39 yX3_init := Or.inr ⟨"VoiceTonight", ni 293 (by decide +kernel) rfl⟩
theorem l_X9_49 : lk9 RX9 49 yX4_init := Or.inl (wi 341 (by decide +kernel) rfl)
theorem l_X9_56 : lk9 RX9 56 yX2_init := Or.inl (wi 358 (by decide +kernel) rfl)
theorem l_X9_63 : lk9 RX9 63 yX8_init := Or.inr ⟨"VoiceTonight", ni 384 (by decide +kernel) rfl⟩
theorem l_X9_72 : lk9 RX9 72 yX5_readInto := Or.inl (wi 453 (by decide +kernel) rfl)
theorem l_X9_77 : lk9 RX9 77 yX6_begin := Or.inl (wi 709 (by decide +kernel) rfl)
theorem l_X9_81 : lk9 RX9 81 yX2_forgetAll := Or.inl (wi 716 (by decide +kernel) rfl)
theorem l_X9_258 : lk9 RX9 258 yX4_fewest := Or.inl (wi 970 (by decide +kernel) rfl)
