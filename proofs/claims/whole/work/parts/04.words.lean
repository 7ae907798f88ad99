def GW : List Cond := lw_tbl.filter goodWord
theorem gw_in {w : Cond} (h : w ∈ lw_tbl) (g : goodWord w = true) : w ∈ GW := List.mem_filter.mpr ⟨h, g⟩
theorem wt_1 {w : Cond} (z : w ∈ tables_1_1) (g : goodWord w = true) : w ∈ GW := gw_in (List.mem_append_right _ (List.mem_append_left _ z)) g
theorem wt_2 {w : Cond} (z : w ∈ tables_1_2) (g : goodWord w = true) : w ∈ GW := gw_in (List.mem_append_right _ (List.mem_append_right _ (List.mem_append_left _ z))) g
theorem wt_3 {w : Cond} (z : w ∈ tables_1_3) (g : goodWord w = true) : w ∈ GW := gw_in (List.mem_append_right _ (List.mem_append_right _ (List.mem_append_right _ (List.mem_append_left _ z)))) g
theorem wt_4 {w : Cond} (z : w ∈ tables_1_4) (g : goodWord w = true) : w ∈ GW := gw_in (List.mem_append_right _ (List.mem_append_right _ (List.mem_append_right _ (List.mem_append_right _ (List.mem_append_left _ z))))) g
theorem wt_5 {w : Cond} (z : w ∈ tables_1_5) (g : goodWord w = true) : w ∈ GW := gw_in (List.mem_append_right _ (List.mem_append_right _ (List.mem_append_right _ (List.mem_append_right _ (List.mem_append_right _ (List.mem_append_left _ z)))))) g
theorem wt_6 {w : Cond} (z : w ∈ tables_1_6) (g : goodWord w = true) : w ∈ GW := gw_in (List.mem_append_right _ (List.mem_append_right _ (List.mem_append_right _ (List.mem_append_right _ (List.mem_append_right _ (List.mem_append_right _ (List.mem_append_left _ z))))))) g
theorem wt_7 {w : Cond} (z : w ∈ tables_1_7) (g : goodWord w = true) : w ∈ GW := gw_in (List.mem_append_right _ (List.mem_append_right _ (List.mem_append_right _ (List.mem_append_right _ (List.mem_append_right _ (List.mem_append_right _ (List.mem_append_right _ (List.mem_append_left _ z)))))))) g
theorem wt_8 {w : Cond} (z : w ∈ tables_1_8) (g : goodWord w = true) : w ∈ GW := gw_in (List.mem_append_right _ (List.mem_append_right _ (List.mem_append_right _ (List.mem_append_right _ (List.mem_append_right _ (List.mem_append_right _ (List.mem_append_right _ (List.mem_append_right _ (List.mem_append_left _ z))))))))) g
theorem wt_9 {w : Cond} (z : w ∈ tables_1_9) (g : goodWord w = true) : w ∈ GW := gw_in (List.mem_append_right _ (List.mem_append_right _ (List.mem_append_right _ (List.mem_append_right _ (List.mem_append_right _ (List.mem_append_right _ (List.mem_append_right _ (List.mem_append_right _ (List.mem_append_right _ (z)))))))))) g
theorem mw_0 : Cond.initialized RL ∈ GW := wt_1 (List.mem_of_getElem? (i := 0) (by decide +kernel)) rfl
theorem mw_1 : Cond.initialized RX11 ∈ GW := wt_1 (List.mem_of_getElem? (i := 1) (by decide +kernel)) rfl
theorem mw_2 : Cond.initialized RX4 ∈ GW := wt_1 (List.mem_of_getElem? (i := 2) (by decide +kernel)) rfl
theorem mw_3 : Cond.initialized RJ0 ∈ GW := wt_1 (List.mem_of_getElem? (i := 3) (by decide +kernel)) rfl
theorem mw_4 : Cond.initialized RJ1 ∈ GW := wt_1 (List.mem_of_getElem? (i := 4) (by decide +kernel)) rfl
theorem mw_5 : Cond.initialized RJ3 ∈ GW := wt_1 (List.mem_of_getElem? (i := 5) (by decide +kernel)) rfl
theorem mw_6 : Cond.initialized RJ2 ∈ GW := wt_1 (List.mem_of_getElem? (i := 6) (by decide +kernel)) rfl
theorem mw_7 : Cond.initialized RX6 ∈ GW := wt_1 (List.mem_of_getElem? (i := 7) (by decide +kernel)) rfl
theorem mw_8 : Cond.initialized RX3 ∈ GW := wt_1 (List.mem_of_getElem? (i := 8) (by decide +kernel)) rfl
theorem mw_9 : Cond.initialized RX7 ∈ GW := wt_1 (List.mem_of_getElem? (i := 9) (by decide +kernel)) rfl
theorem mw_10 : Cond.initialized RX8 ∈ GW := wt_1 (List.mem_of_getElem? (i := 10) (by decide +kernel)) rfl
theorem mw_11 : Cond.initialized RX9 ∈ GW := wt_1 (List.mem_of_getElem? (i := 11) (by decide +kernel)) rfl
theorem mw_12 : Cond.initialized RX2 ∈ GW := wt_1 (List.mem_of_getElem? (i := 12) (by decide +kernel)) rfl
theorem mw_13 : Cond.initialized RX10 ∈ GW := wt_1 (List.mem_of_getElem? (i := 13) (by decide +kernel)) rfl
theorem mw_14 : Cond.initialized RX0 ∈ GW := wt_1 (List.mem_of_getElem? (i := 14) (by decide +kernel)) rfl
theorem mw_15 : Cond.initialized RX5 ∈ GW := wt_1 (List.mem_of_getElem? (i := 15) (by decide +kernel)) rfl
theorem mw_16 : Cond.initialized RJ7 ∈ GW := wt_1 (List.mem_of_getElem? (i := 16) (by decide +kernel)) rfl
theorem mw_17 : Cond.initialized RJ10 ∈ GW := wt_1 (List.mem_of_getElem? (i := 17) (by decide +kernel)) rfl
theorem mw_18 : Cond.initialized RJ9 ∈ GW := wt_1 (List.mem_of_getElem? (i := 18) (by decide +kernel)) rfl
theorem mw_19 : Cond.initialized RX12 ∈ GW := wt_1 (List.mem_of_getElem? (i := 19) (by decide +kernel)) rfl
theorem mw_20 : Cond.initialized RJ11 ∈ GW := wt_1 (List.mem_of_getElem? (i := 20) (by decide +kernel)) rfl
theorem mw_21 : Cond.initialized "java/lang/Throwable" ∈ GW := wt_1 (List.mem_of_getElem? (i := 21) (by decide +kernel)) rfl
theorem mw_22 : Cond.initialized "java/lang/Exception" ∈ GW := wt_1 (List.mem_of_getElem? (i := 22) (by decide +kernel)) rfl
theorem mw_23 : Cond.initialized "java/lang/RuntimeException" ∈ GW := wt_1 (List.mem_of_getElem? (i := 23) (by decide +kernel)) rfl
theorem mw_24 : Cond.initialized "java/util/NoSuchElementException" ∈ GW := wt_1 (List.mem_of_getElem? (i := 24) (by decide +kernel)) rfl
theorem mw_25 : Cond.initialized RJ6 ∈ GW := wt_1 (List.mem_of_getElem? (i := 25) (by decide +kernel)) rfl
theorem mw_26 : Cond.initialized RX1 ∈ GW := wt_1 (List.mem_of_getElem? (i := 26) (by decide +kernel)) rfl
theorem mw_27 : Cond.classLink RL 8 RX11 ∈ GW := wt_1 (List.mem_of_getElem? (i := 27) (by decide +kernel)) rfl
theorem mw_28 : Cond.instantiable RX11 18 ∈ GW := wt_1 (List.mem_of_getElem? (i := 28) (by decide +kernel)) rfl
theorem mw_29 : Cond.methodLink RL 22 yX11_init ∈ GW := wt_1 (List.mem_of_getElem? (i := 29) (by decide +kernel)) rfl
theorem mw_30 : Cond.instanceMethod yX11_init ∈ GW := wt_1 (List.mem_of_getElem? (i := 30) (by decide +kernel)) rfl
theorem mw_31 : Cond.code yX11_init cX11_init 2 none ∈ GW := wt_1 (List.mem_of_getElem? (i := 31) (by decide +kernel)) rfl
theorem mw_32 : Cond.methodLink RX11 1 objectInit ∈ GW := wt_1 (List.mem_of_getElem? (i := 32) (by decide +kernel)) rfl
theorem mw_33 : Cond.instanceMethod objectInit ∈ GW := wt_1 (List.mem_of_getElem? (i := 33) (by decide +kernel)) rfl
theorem mw_34 : Cond.code objectInit object_method_1_code 1 none ∈ GW := wt_1 (List.mem_of_getElem? (i := 34) (by decide +kernel)) rfl
theorem mw_35 : Cond.classLink RX11 13 RX4 ∈ GW := wt_1 (List.mem_of_getElem? (i := 35) (by decide +kernel)) rfl
theorem mw_36 : Cond.instantiable RX4 12 ∈ GW := wt_1 (List.mem_of_getElem? (i := 36) (by decide +kernel)) rfl
theorem mw_37 : Cond.methodLink RX11 15 yX4_init ∈ GW := wt_1 (List.mem_of_getElem? (i := 37) (by decide +kernel)) rfl
theorem mw_38 : Cond.instanceMethod yX4_init ∈ GW := wt_1 (List.mem_of_getElem? (i := 38) (by decide +kernel)) rfl
theorem mw_39 : Cond.code yX4_init cX4_init 6 none ∈ GW := wt_1 (List.mem_of_getElem? (i := 39) (by decide +kernel)) rfl
theorem mw_40 : Cond.methodLink RX4 3 objectInit ∈ GW := wt_1 (List.mem_of_getElem? (i := 40) (by decide +kernel)) rfl
theorem mw_41 : Cond.methodLink RX4 21 yJ0_length_8abf5 ∈ GW := wt_1 (List.mem_of_getElem? (i := 42) (by decide +kernel)) rfl
theorem mw_42 : Cond.instanceMethod yJ0_length_8abf5 ∈ GW := wt_1 (List.mem_of_getElem? (i := 43) (by decide +kernel)) rfl
theorem mw_43 : Cond.selects RJ0 yJ0_length_8abf5 yJ0_length_8abf5 ∈ GW := wt_1 (List.mem_of_getElem? (i := 44) (by decide +kernel)) rfl
theorem mw_44 : Cond.code yJ0_length_8abf5 cJ0_length_8abf5 1 (some FieldType.int) ∈ GW := wt_1 (List.mem_of_getElem? (i := 45) (by decide +kernel)) rfl
theorem mw_45 : Cond.methodLink RJ0 335 yJ0_coder_7d493 ∈ GW := wt_1 (List.mem_of_getElem? (i := 46) (by decide +kernel)) rfl
theorem mw_46 : Cond.instanceMethod yJ0_coder_7d493 ∈ GW := wt_1 (List.mem_of_getElem? (i := 47) (by decide +kernel)) rfl
theorem mw_47 : Cond.selects RJ0 yJ0_coder_7d493 yJ0_coder_7d493 ∈ GW := wt_1 (List.mem_of_getElem? (i := 48) (by decide +kernel)) rfl
theorem mw_48 : Cond.code yJ0_coder_7d493 cJ0_coder_7d493 1 (some FieldType.byte) ∈ GW := wt_1 (List.mem_of_getElem? (i := 49) (by decide +kernel)) rfl
theorem mw_49 : Cond.fieldLink RJ0 38 "java/lang/String" "COMPACT_STRINGS" "Z" ∈ GW := wt_1 (List.mem_of_getElem? (i := 50) (by decide +kernel)) rfl
theorem mw_50 : Cond.methodLink RX4 27 yJ0_charAt_5068e ∈ GW := wt_1 (List.mem_of_getElem? (i := 52) (by decide +kernel)) rfl
theorem mw_51 : Cond.instanceMethod yJ0_charAt_5068e ∈ GW := wt_1 (List.mem_of_getElem? (i := 53) (by decide +kernel)) rfl
theorem mw_52 : Cond.selects RJ0 yJ0_charAt_5068e yJ0_charAt_5068e ∈ GW := wt_1 (List.mem_of_getElem? (i := 54) (by decide +kernel)) rfl
theorem mw_53 : Cond.code yJ0_charAt_5068e cJ0_charAt_5068e 2 (some FieldType.char) ∈ GW := wt_1 (List.mem_of_getElem? (i := 55) (by decide +kernel)) rfl
theorem mw_54 : Cond.methodLink RJ0 492 yJ0_isLatin1_aae02 ∈ GW := wt_1 (List.mem_of_getElem? (i := 56) (by decide +kernel)) rfl
theorem mw_55 : Cond.instanceMethod yJ0_isLatin1_aae02 ∈ GW := wt_1 (List.mem_of_getElem? (i := 57) (by decide +kernel)) rfl
theorem mw_56 : Cond.selects RJ0 yJ0_isLatin1_aae02 yJ0_isLatin1_aae02 ∈ GW := wt_1 (List.mem_of_getElem? (i := 58) (by decide +kernel)) rfl
theorem mw_57 : Cond.code yJ0_isLatin1_aae02 cJ0_isLatin1_aae02 1 (some FieldType.boolean) ∈ GW := wt_1 (List.mem_of_getElem? (i := 59) (by decide +kernel)) rfl
theorem mw_58 : Cond.methodLink RJ0 495 yJ1_charAt_3b067 ∈ GW := wt_1 (List.mem_of_getElem? (i := 60) (by decide +kernel)) rfl
theorem mw_59 : Cond.static yJ1_charAt_3b067 ∈ GW := wt_1 (List.mem_of_getElem? (i := 61) (by decide +kernel)) rfl
theorem mw_60 : Cond.code yJ1_charAt_3b067 cJ1_charAt_3b067 2 (some FieldType.char) ∈ GW := wt_1 (List.mem_of_getElem? (i := 62) (by decide +kernel)) rfl
theorem mw_61 : Cond.methodLink RJ1 9 yJ0_checkIndex_df160 ∈ GW := wt_1 (List.mem_of_getElem? (i := 63) (by decide +kernel)) rfl
theorem mw_62 : Cond.static yJ0_checkIndex_df160 ∈ GW := wt_1 (List.mem_of_getElem? (i := 64) (by decide +kernel)) rfl
theorem mw_63 : Cond.code yJ0_checkIndex_df160 cJ0_checkIndex_df160 2 none ∈ GW := wt_1 (List.mem_of_getElem? (i := 65) (by decide +kernel)) rfl
theorem mw_64 : Cond.fieldLink RJ0 1053 "jdk/internal/util/Preconditions" "SIOOBE_FORMATTER" "Ljava/util/function/BiFunction;" ∈ GW := wt_1 (List.mem_of_getElem? (i := 66) (by decide +kernel)) rfl
theorem mw_65 : Cond.methodLink RJ0 1059 yJ3_checkIndex_8e157 ∈ GW := wt_1 (List.mem_of_getElem? (i := 68) (by decide +kernel)) rfl
theorem mw_66 : Cond.static yJ3_checkIndex_8e157 ∈ GW := wt_1 (List.mem_of_getElem? (i := 69) (by decide +kernel)) rfl
theorem mw_67 : Cond.code yJ3_checkIndex_8e157 cJ3_checkIndex_8e157 3 (some FieldType.int) ∈ GW := wt_1 (List.mem_of_getElem? (i := 70) (by decide +kernel)) rfl
theorem mw_68 : Cond.methodLink RJ0 498 yJ2_charAt_3b067 ∈ GW := wt_1 (List.mem_of_getElem? (i := 71) (by decide +kernel)) rfl
theorem mw_69 : Cond.static yJ2_charAt_3b067 ∈ GW := wt_1 (List.mem_of_getElem? (i := 72) (by decide +kernel)) rfl
theorem mw_70 : Cond.code yJ2_charAt_3b067 cJ2_charAt_3b067 2 (some FieldType.char) ∈ GW := wt_1 (List.mem_of_getElem? (i := 73) (by decide +kernel)) rfl
theorem mw_71 : Cond.methodLink RJ2 67 yJ2_checkIndex_2214a ∈ GW := wt_1 (List.mem_of_getElem? (i := 74) (by decide +kernel)) rfl
theorem mw_72 : Cond.static yJ2_checkIndex_2214a ∈ GW := wt_1 (List.mem_of_getElem? (i := 75) (by decide +kernel)) rfl
theorem mw_73 : Cond.code yJ2_checkIndex_2214a cJ2_checkIndex_2214a 2 none ∈ GW := wt_1 (List.mem_of_getElem? (i := 76) (by decide +kernel)) rfl
theorem mw_74 : Cond.methodLink RJ2 48 yJ2_length_9d52b ∈ GW := wt_1 (List.mem_of_getElem? (i := 77) (by decide +kernel)) rfl
theorem mw_75 : Cond.static yJ2_length_9d52b ∈ GW := wt_1 (List.mem_of_getElem? (i := 78) (by decide +kernel)) rfl
theorem mw_76 : Cond.code yJ2_length_9d52b cJ2_length_9d52b 1 (some FieldType.int) ∈ GW := wt_1 (List.mem_of_getElem? (i := 79) (by decide +kernel)) rfl
theorem mw_77 : Cond.methodLink RJ2 414 yJ0_checkIndex_df160 ∈ GW := wt_1 (List.mem_of_getElem? (i := 80) (by decide +kernel)) rfl
theorem mw_78 : Cond.methodLink RJ2 71 yJ2_getChar_3b067 ∈ GW := wt_1 (List.mem_of_getElem? (i := 81) (by decide +kernel)) rfl
theorem mw_79 : Cond.static yJ2_getChar_3b067 ∈ GW := wt_1 (List.mem_of_getElem? (i := 82) (by decide +kernel)) rfl
theorem mw_80 : Cond.code yJ2_getChar_3b067 cJ2_getChar_3b067 2 (some FieldType.char) ∈ GW := wt_1 (List.mem_of_getElem? (i := 83) (by decide +kernel)) rfl
theorem mw_81 : Cond.fieldLink RJ2 44 "java/lang/StringUTF16" "$assertionsDisabled" "Z" ∈ GW := wt_1 (List.mem_of_getElem? (i := 84) (by decide +kernel)) rfl
theorem mw_82 : Cond.fieldLink RJ2 59 "java/lang/StringUTF16" "HI_BYTE_SHIFT" "I" ∈ GW := wt_1 (List.mem_of_getElem? (i := 86) (by decide +kernel)) rfl
theorem mw_83 : Cond.fieldLink RJ2 63 "java/lang/StringUTF16" "LO_BYTE_SHIFT" "I" ∈ GW := wt_1 (List.mem_of_getElem? (i := 88) (by decide +kernel)) rfl
theorem mw_84 : Cond.fieldLink RX4 15 "FalseName$Reader" "text" "[B" ∈ GW := wt_1 (List.mem_of_getElem? (i := 90) (by decide +kernel)) rfl
theorem mw_85 : Cond.fieldLink RX4 9 "FalseName$Reader" "reserved" "[J" ∈ GW := wt_1 (List.mem_of_getElem? (i := 91) (by decide +kernel)) rfl
theorem mw_86 : Cond.fieldLink RX4 37 "FalseName$Reader" "size" "I" ∈ GW := wt_1 (List.mem_of_getElem? (i := 92) (by decide +kernel)) rfl
theorem mw_87 : Cond.fieldLink RX4 41 "FalseName$Reader" "stop" "I" ∈ GW := wt_1 (List.mem_of_getElem? (i := 93) (by decide +kernel)) rfl
theorem mw_88 : Cond.fieldLink RX4 44 "FalseName$Reader" "at" "I" ∈ GW := wt_1 (List.mem_of_getElem? (i := 94) (by decide +kernel)) rfl
theorem mw_89 : Cond.fieldLink RX2 39 "FalseName$Reader" "sort" "I" ∈ GW := wt_1 (List.mem_of_getElem? (i := 95) (by decide +kernel)) rfl
theorem mw_90 : Cond.fieldLink RX7 34 "FalseName$Reader" "sort" "I" ∈ GW := wt_1 (List.mem_of_getElem? (i := 96) (by decide +kernel)) rfl
theorem mw_91 : Cond.fieldLink RX4 62 "FalseName$Reader" "sort" "I" ∈ GW := wt_1 (List.mem_of_getElem? (i := 97) (by decide +kernel)) rfl
theorem mw_92 : Cond.fieldLink RX9 62 "FalseName$Reader" "sort" "I" ∈ GW := wt_1 (List.mem_of_getElem? (i := 98) (by decide +kernel)) rfl
theorem mw_93 : Cond.fieldLink RX4 59 "FalseName$Reader" "start" "I" ∈ GW := wt_1 (List.mem_of_getElem? (i := 99) (by decide +kernel)) rfl
theorem mw_94 : Cond.fieldLink RX4 77 "FalseName$Reader" "word" "J" ∈ GW := wt_1 (List.mem_of_getElem? (i := 100) (by decide +kernel)) rfl
theorem mw_95 : Cond.fieldLink RX7 113 "FalseName$Reader" "word" "J" ∈ GW := wt_1 (List.mem_of_getElem? (i := 101) (by decide +kernel)) rfl
theorem mw_96 : Cond.fieldLink RX7 48 "FalseName$Reader" "key" "I" ∈ GW := wt_1 (List.mem_of_getElem? (i := 102) (by decide +kernel)) rfl
theorem mw_97 : Cond.fieldLink RX2 49 "FalseName$Reader" "key" "I" ∈ GW := wt_1 (List.mem_of_getElem? (i := 103) (by decide +kernel)) rfl
theorem mw_98 : Cond.fieldLink RX9 49 "FalseName$Reader" "key" "I" ∈ GW := wt_1 (List.mem_of_getElem? (i := 104) (by decide +kernel)) rfl
theorem mw_99 : Cond.fieldLink RX4 56 "FalseName$Reader" "key" "I" ∈ GW := wt_1 (List.mem_of_getElem? (i := 105) (by decide +kernel)) rfl
theorem mw_100 : Cond.fieldLink RX4 81 "FalseName$Reader" "value" "I" ∈ GW := wt_1 (List.mem_of_getElem? (i := 106) (by decide +kernel)) rfl
theorem mw_101 : Cond.fieldLink RX4 47 "FalseName$Reader" "fault" "I" ∈ GW := wt_1 (List.mem_of_getElem? (i := 107) (by decide +kernel)) rfl
theorem mw_102 : Cond.fieldLink RX11 130 "FalseName$Reader" "fault" "I" ∈ GW := wt_1 (List.mem_of_getElem? (i := 108) (by decide +kernel)) rfl
theorem mw_103 : Cond.fieldLink RX4 50 "FalseName$Reader" "place" "I" ∈ GW := wt_1 (List.mem_of_getElem? (i := 109) (by decide +kernel)) rfl
theorem mw_104 : Cond.fieldLink RX11 136 "FalseName$Reader" "place" "I" ∈ GW := wt_1 (List.mem_of_getElem? (i := 110) (by decide +kernel)) rfl
theorem mw_105 : Cond.laysFinal RX4 "FalseName$Reader" "text" "[B" ∈ GW := wt_1 (List.mem_of_getElem? (i := 111) (by decide +kernel)) rfl
theorem mw_106 : Cond.laysFinal RX4 "FalseName$Reader" "reserved" "[J" ∈ GW := wt_1 (List.mem_of_getElem? (i := 113) (by decide +kernel)) rfl
theorem mw_107 : Cond.lays RX4 "FalseName$Reader" "size" "I" ∈ GW := wt_1 (List.mem_of_getElem? (i := 115) (by decide +kernel)) rfl
theorem mw_108 : Cond.lays RX4 "FalseName$Reader" "stop" "I" ∈ GW := wt_1 (List.mem_of_getElem? (i := 117) (by decide +kernel)) rfl
theorem mw_109 : Cond.lays RX4 "FalseName$Reader" "at" "I" ∈ GW := wt_1 (List.mem_of_getElem? (i := 119) (by decide +kernel)) rfl
theorem mw_110 : Cond.lays RX4 "FalseName$Reader" "sort" "I" ∈ GW := wt_1 (List.mem_of_getElem? (i := 121) (by decide +kernel)) rfl
theorem mw_111 : Cond.lays RX4 "FalseName$Reader" "start" "I" ∈ GW := wt_1 (List.mem_of_getElem? (i := 123) (by decide +kernel)) rfl
theorem mw_112 : Cond.lays RX4 "FalseName$Reader" "word" "J" ∈ GW := wt_1 (List.mem_of_getElem? (i := 125) (by decide +kernel)) rfl
theorem mw_113 : Cond.lays RX4 "FalseName$Reader" "key" "I" ∈ GW := wt_1 (List.mem_of_getElem? (i := 127) (by decide +kernel)) rfl
theorem mw_114 : Cond.lays RX4 "FalseName$Reader" "value" "I" ∈ GW := wt_1 (List.mem_of_getElem? (i := 129) (by decide +kernel)) rfl
theorem mw_115 : Cond.lays RX4 "FalseName$Reader" "fault" "I" ∈ GW := wt_1 (List.mem_of_getElem? (i := 131) (by decide +kernel)) rfl
theorem mw_116 : Cond.lays RX4 "FalseName$Reader" "place" "I" ∈ GW := wt_1 (List.mem_of_getElem? (i := 133) (by decide +kernel)) rfl
theorem mw_117 : Cond.arrayClass FieldType.byte ∈ GW := wt_1 (List.mem_of_getElem? (i := 136) (by decide +kernel)) rfl
theorem mw_118 : Cond.arrayClass FieldType.long ∈ GW := wt_1 (List.mem_of_getElem? (i := 137) (by decide +kernel)) rfl
theorem mw_119 : Cond.classLink RX11 22 RX6 ∈ GW := wt_1 (List.mem_of_getElem? (i := 138) (by decide +kernel)) rfl
theorem mw_120 : Cond.instantiable RX6 13 ∈ GW := wt_1 (List.mem_of_getElem? (i := 139) (by decide +kernel)) rfl
theorem mw_121 : Cond.instanceMethod yX6_init ∈ GW := wt_1 (List.mem_of_getElem? (i := 141) (by decide +kernel)) rfl
theorem mw_122 : Cond.code yX6_init cX6_init 1 none ∈ GW := wt_1 (List.mem_of_getElem? (i := 142) (by decide +kernel)) rfl
theorem mw_123 : Cond.methodLink RX6 3 objectInit ∈ GW := wt_1 (List.mem_of_getElem? (i := 143) (by decide +kernel)) rfl
theorem mw_124 : Cond.classLink RX6 9 RX3 ∈ GW := wt_1 (List.mem_of_getElem? (i := 144) (by decide +kernel)) rfl
theorem mw_125 : Cond.instantiable RX3 4 ∈ GW := wt_1 (List.mem_of_getElem? (i := 145) (by decide +kernel)) rfl
theorem mw_126 : Cond.instanceMethod yX3_init ∈ GW := wt_1 (List.mem_of_getElem? (i := 147) (by decide +kernel)) rfl
theorem mw_127 : Cond.code yX3_init cX3_init 1 none ∈ GW := wt_1 (List.mem_of_getElem? (i := 148) (by decide +kernel)) rfl
theorem mw_128 : Cond.methodLink RX3 3 objectInit ∈ GW := wt_1 (List.mem_of_getElem? (i := 149) (by decide +kernel)) rfl
theorem mw_129 : Cond.fieldLink RX3 9 "FalseName$NameTable" "word" "[J" ∈ GW := wt_1 (List.mem_of_getElem? (i := 150) (by decide +kernel)) rfl
theorem mw_130 : Cond.fieldLink RX3 15 "FalseName$NameTable" "sort" "[I" ∈ GW := wt_1 (List.mem_of_getElem? (i := 151) (by decide +kernel)) rfl
theorem mw_131 : Cond.fieldLink RX3 19 "FalseName$NameTable" "number" "[I" ∈ GW := wt_1 (List.mem_of_getElem? (i := 152) (by decide +kernel)) rfl
theorem mw_132 : Cond.fieldLink RX3 22 "FalseName$NameTable" "size" "I" ∈ GW := wt_1 (List.mem_of_getElem? (i := 153) (by decide +kernel)) rfl
theorem mw_133 : Cond.fieldLink RX6 52 "FalseName$NameTable" "size" "I" ∈ GW := wt_1 (List.mem_of_getElem? (i := 154) (by decide +kernel)) rfl
theorem mw_134 : Cond.laysFinal RX3 "FalseName$NameTable" "word" "[J" ∈ GW := wt_1 (List.mem_of_getElem? (i := 155) (by decide +kernel)) rfl
theorem mw_135 : Cond.laysFinal RX3 "FalseName$NameTable" "sort" "[I" ∈ GW := wt_1 (List.mem_of_getElem? (i := 157) (by decide +kernel)) rfl
theorem mw_136 : Cond.laysFinal RX3 "FalseName$NameTable" "number" "[I" ∈ GW := wt_1 (List.mem_of_getElem? (i := 159) (by decide +kernel)) rfl
theorem mw_137 : Cond.lays RX3 "FalseName$NameTable" "size" "I" ∈ GW := wt_1 (List.mem_of_getElem? (i := 161) (by decide +kernel)) rfl
theorem mw_138 : Cond.arrayClass FieldType.int ∈ GW := wt_1 (List.mem_of_getElem? (i := 164) (by decide +kernel)) rfl
theorem mw_139 : Cond.fieldLink RX6 12 "FalseName$Sea" "names" "LFalseName$NameTable;" ∈ GW := wt_1 (List.mem_of_getElem? (i := 165) (by decide +kernel)) rfl
theorem mw_140 : Cond.fieldLink RX11 53 "FalseName$Sea" "names" "LFalseName$NameTable;" ∈ GW := wt_1 (List.mem_of_getElem? (i := 166) (by decide +kernel)) rfl
theorem mw_141 : Cond.fieldLink RX7 109 "FalseName$Sea" "names" "LFalseName$NameTable;" ∈ GW := wt_1 (List.mem_of_getElem? (i := 167) (by decide +kernel)) rfl
theorem mw_142 : Cond.fieldLink RX6 18 "FalseName$Sea" "many" "[I" ∈ GW := wt_1 (List.mem_of_getElem? (i := 168) (by decide +kernel)) rfl
theorem mw_143 : Cond.fieldLink RX0 19 "FalseName$Sea" "many" "[I" ∈ GW := wt_1 (List.mem_of_getElem? (i := 169) (by decide +kernel)) rfl
theorem mw_144 : Cond.fieldLink RX10 74 "FalseName$Sea" "many" "[I" ∈ GW := wt_1 (List.mem_of_getElem? (i := 170) (by decide +kernel)) rfl
theorem mw_145 : Cond.fieldLink RX7 55 "FalseName$Sea" "many" "[I" ∈ GW := wt_1 (List.mem_of_getElem? (i := 171) (by decide +kernel)) rfl
theorem mw_146 : Cond.fieldLink RX8 40 "FalseName$Sea" "many" "[I" ∈ GW := wt_1 (List.mem_of_getElem? (i := 172) (by decide +kernel)) rfl
theorem mw_147 : Cond.fieldLink RX11 197 "FalseName$Sea" "many" "[I" ∈ GW := wt_1 (List.mem_of_getElem? (i := 173) (by decide +kernel)) rfl
theorem mw_148 : Cond.fieldLink RX6 62 "FalseName$Sea" "parrot" "I" ∈ GW := wt_1 (List.mem_of_getElem? (i := 174) (by decide +kernel)) rfl
theorem mw_149 : Cond.fieldLink RX7 150 "FalseName$Sea" "parrot" "I" ∈ GW := wt_1 (List.mem_of_getElem? (i := 175) (by decide +kernel)) rfl
theorem mw_150 : Cond.fieldLink RX11 201 "FalseName$Sea" "parrot" "I" ∈ GW := wt_1 (List.mem_of_getElem? (i := 176) (by decide +kernel)) rfl
theorem mw_151 : Cond.fieldLink RX10 142 "FalseName$Sea" "parrot" "I" ∈ GW := wt_1 (List.mem_of_getElem? (i := 177) (by decide +kernel)) rfl
theorem mw_152 : Cond.fieldLink RX6 22 "FalseName$Sea" "ways" "[I" ∈ GW := wt_1 (List.mem_of_getElem? (i := 178) (by decide +kernel)) rfl
theorem mw_153 : Cond.fieldLink RX7 72 "FalseName$Sea" "ways" "[I" ∈ GW := wt_1 (List.mem_of_getElem? (i := 179) (by decide +kernel)) rfl
theorem mw_154 : Cond.fieldLink RX10 110 "FalseName$Sea" "ways" "[I" ∈ GW := wt_1 (List.mem_of_getElem? (i := 180) (by decide +kernel)) rfl
theorem mw_155 : Cond.fieldLink RX11 233 "FalseName$Sea" "ways" "[I" ∈ GW := wt_1 (List.mem_of_getElem? (i := 181) (by decide +kernel)) rfl
theorem mw_156 : Cond.fieldLink RX6 25 "FalseName$Sea" "mails" "[I" ∈ GW := wt_1 (List.mem_of_getElem? (i := 182) (by decide +kernel)) rfl
theorem mw_157 : Cond.fieldLink RX7 82 "FalseName$Sea" "mails" "[I" ∈ GW := wt_1 (List.mem_of_getElem? (i := 183) (by decide +kernel)) rfl
theorem mw_158 : Cond.fieldLink RX11 239 "FalseName$Sea" "mails" "[I" ∈ GW := wt_1 (List.mem_of_getElem? (i := 184) (by decide +kernel)) rfl
theorem mw_159 : Cond.fieldLink RX6 28 "FalseName$Sea" "wanted" "[I" ∈ GW := wt_1 (List.mem_of_getElem? (i := 185) (by decide +kernel)) rfl
theorem mw_160 : Cond.fieldLink RX10 77 "FalseName$Sea" "wanted" "[I" ∈ GW := wt_1 (List.mem_of_getElem? (i := 186) (by decide +kernel)) rfl
theorem mw_161 : Cond.fieldLink RX7 85 "FalseName$Sea" "wanted" "[I" ∈ GW := wt_1 (List.mem_of_getElem? (i := 187) (by decide +kernel)) rfl
theorem mw_162 : Cond.fieldLink RX11 243 "FalseName$Sea" "wanted" "[I" ∈ GW := wt_1 (List.mem_of_getElem? (i := 188) (by decide +kernel)) rfl
theorem mw_163 : Cond.fieldLink RX6 31 "FalseName$Sea" "owed" "[I" ∈ GW := wt_1 (List.mem_of_getElem? (i := 189) (by decide +kernel)) rfl
theorem mw_164 : Cond.fieldLink RX7 88 "FalseName$Sea" "owed" "[I" ∈ GW := wt_1 (List.mem_of_getElem? (i := 190) (by decide +kernel)) rfl
theorem mw_165 : Cond.fieldLink RX10 146 "FalseName$Sea" "owed" "[I" ∈ GW := wt_1 (List.mem_of_getElem? (i := 191) (by decide +kernel)) rfl
theorem mw_166 : Cond.fieldLink RX6 34 "FalseName$Sea" "needed" "[I" ∈ GW := wt_1 (List.mem_of_getElem? (i := 192) (by decide +kernel)) rfl
theorem mw_167 : Cond.fieldLink RX7 91 "FalseName$Sea" "needed" "[I" ∈ GW := wt_1 (List.mem_of_getElem? (i := 193) (by decide +kernel)) rfl
theorem mw_168 : Cond.fieldLink RX6 37 "FalseName$Sea" "skills" "[I" ∈ GW := wt_1 (List.mem_of_getElem? (i := 194) (by decide +kernel)) rfl
theorem mw_169 : Cond.fieldLink RX10 66 "FalseName$Sea" "skills" "[I" ∈ GW := wt_1 (List.mem_of_getElem? (i := 195) (by decide +kernel)) rfl
theorem mw_170 : Cond.fieldLink RX7 131 "FalseName$Sea" "skills" "[I" ∈ GW := wt_1 (List.mem_of_getElem? (i := 196) (by decide +kernel)) rfl
theorem mw_171 : Cond.fieldLink RX6 40 "FalseName$Sea" "rains" "[I" ∈ GW := wt_1 (List.mem_of_getElem? (i := 197) (by decide +kernel)) rfl
theorem mw_172 : Cond.fieldLink RX7 147 "FalseName$Sea" "rains" "[I" ∈ GW := wt_1 (List.mem_of_getElem? (i := 198) (by decide +kernel)) rfl
theorem mw_173 : Cond.fieldLink RX6 43 "FalseName$Sea" "roles" "[I" ∈ GW := wt_1 (List.mem_of_getElem? (i := 199) (by decide +kernel)) rfl
theorem mw_174 : Cond.fieldLink RX10 96 "FalseName$Sea" "roles" "[I" ∈ GW := wt_1 (List.mem_of_getElem? (i := 200) (by decide +kernel)) rfl
theorem mw_175 : Cond.fieldLink RX11 269 "FalseName$Sea" "roles" "[I" ∈ GW := wt_1 (List.mem_of_getElem? (i := 201) (by decide +kernel)) rfl
theorem mw_176 : Cond.fieldLink RX6 46 "FalseName$Sea" "far" "[I" ∈ GW := wt_1 (List.mem_of_getElem? (i := 202) (by decide +kernel)) rfl
theorem mw_177 : Cond.fieldLink RX5 42 "FalseName$Sea" "far" "[I" ∈ GW := wt_1 (List.mem_of_getElem? (i := 203) (by decide +kernel)) rfl
theorem mw_178 : Cond.fieldLink RX11 249 "FalseName$Sea" "far" "[I" ∈ GW := wt_1 (List.mem_of_getElem? (i := 204) (by decide +kernel)) rfl
theorem mw_179 : Cond.fieldLink RX10 173 "FalseName$Sea" "far" "[I" ∈ GW := wt_1 (List.mem_of_getElem? (i := 205) (by decide +kernel)) rfl
theorem mw_180 : Cond.fieldLink RX6 49 "FalseName$Sea" "post" "[I" ∈ GW := wt_1 (List.mem_of_getElem? (i := 206) (by decide +kernel)) rfl
theorem mw_181 : Cond.fieldLink RX10 84 "FalseName$Sea" "post" "[I" ∈ GW := wt_1 (List.mem_of_getElem? (i := 207) (by decide +kernel)) rfl
theorem mw_182 : Cond.fieldLink RX11 258 "FalseName$Sea" "post" "[I" ∈ GW := wt_1 (List.mem_of_getElem? (i := 208) (by decide +kernel)) rfl
theorem mw_183 : Cond.laysFinal RX6 "FalseName$Sea" "names" "LFalseName$NameTable;" ∈ GW := wt_1 (List.mem_of_getElem? (i := 209) (by decide +kernel)) rfl
theorem mw_184 : Cond.laysFinal RX6 "FalseName$Sea" "many" "[I" ∈ GW := wt_1 (List.mem_of_getElem? (i := 211) (by decide +kernel)) rfl
theorem mw_185 : Cond.lays RX6 "FalseName$Sea" "parrot" "I" ∈ GW := wt_1 (List.mem_of_getElem? (i := 213) (by decide +kernel)) rfl
theorem mw_186 : Cond.laysFinal RX6 "FalseName$Sea" "ways" "[I" ∈ GW := wt_1 (List.mem_of_getElem? (i := 215) (by decide +kernel)) rfl
theorem mw_187 : Cond.laysFinal RX6 "FalseName$Sea" "mails" "[I" ∈ GW := wt_1 (List.mem_of_getElem? (i := 217) (by decide +kernel)) rfl
theorem mw_188 : Cond.laysFinal RX6 "FalseName$Sea" "wanted" "[I" ∈ GW := wt_1 (List.mem_of_getElem? (i := 219) (by decide +kernel)) rfl
theorem mw_189 : Cond.laysFinal RX6 "FalseName$Sea" "owed" "[I" ∈ GW := wt_1 (List.mem_of_getElem? (i := 221) (by decide +kernel)) rfl
theorem mw_190 : Cond.laysFinal RX6 "FalseName$Sea" "needed" "[I" ∈ GW := wt_1 (List.mem_of_getElem? (i := 223) (by decide +kernel)) rfl
theorem mw_191 : Cond.laysFinal RX6 "FalseName$Sea" "skills" "[I" ∈ GW := wt_1 (List.mem_of_getElem? (i := 225) (by decide +kernel)) rfl
theorem mw_192 : Cond.laysFinal RX6 "FalseName$Sea" "rains" "[I" ∈ GW := wt_1 (List.mem_of_getElem? (i := 227) (by decide +kernel)) rfl
theorem mw_193 : Cond.laysFinal RX6 "FalseName$Sea" "roles" "[I" ∈ GW := wt_1 (List.mem_of_getElem? (i := 229) (by decide +kernel)) rfl
theorem mw_194 : Cond.laysFinal RX6 "FalseName$Sea" "far" "[I" ∈ GW := wt_1 (List.mem_of_getElem? (i := 231) (by decide +kernel)) rfl
theorem mw_195 : Cond.laysFinal RX6 "FalseName$Sea" "post" "[I" ∈ GW := wt_1 (List.mem_of_getElem? (i := 233) (by decide +kernel)) rfl
theorem mw_196 : Cond.classLink RX11 32 RX7 ∈ GW := wt_1 (List.mem_of_getElem? (i := 236) (by decide +kernel)) rfl
theorem mw_197 : Cond.instantiable RX7 3 ∈ GW := wt_1 (List.mem_of_getElem? (i := 237) (by decide +kernel)) rfl
theorem mw_198 : Cond.methodLink RX11 34 yX7_init ∈ GW := wt_1 (List.mem_of_getElem? (i := 238) (by decide +kernel)) rfl
theorem mw_199 : Cond.instanceMethod yX7_init ∈ GW := wt_1 (List.mem_of_getElem? (i := 239) (by decide +kernel)) rfl
theorem mw_200 : Cond.code yX7_init cX7_init 3 none ∈ GW := wt_2 (List.mem_of_getElem? (i := 0) (by decide +kernel)) rfl
theorem mw_201 : Cond.methodLink RX7 3 objectInit ∈ GW := wt_2 (List.mem_of_getElem? (i := 1) (by decide +kernel)) rfl
theorem mw_202 : Cond.fieldLink RX7 9 "FalseName$SeaReader" "reader" "LFalseName$Reader;" ∈ GW := wt_2 (List.mem_of_getElem? (i := 2) (by decide +kernel)) rfl
theorem mw_203 : Cond.fieldLink RX7 15 "FalseName$SeaReader" "sea" "LFalseName$Sea;" ∈ GW := wt_2 (List.mem_of_getElem? (i := 3) (by decide +kernel)) rfl
theorem mw_204 : Cond.fieldLink RX7 30 "FalseName$SeaReader" "parrotTold" "Z" ∈ GW := wt_2 (List.mem_of_getElem? (i := 4) (by decide +kernel)) rfl
theorem mw_205 : Cond.laysFinal RX7 "FalseName$SeaReader" "reader" "LFalseName$Reader;" ∈ GW := wt_2 (List.mem_of_getElem? (i := 5) (by decide +kernel)) rfl
theorem mw_206 : Cond.laysFinal RX7 "FalseName$SeaReader" "sea" "LFalseName$Sea;" ∈ GW := wt_2 (List.mem_of_getElem? (i := 7) (by decide +kernel)) rfl
theorem mw_207 : Cond.lays RX7 "FalseName$SeaReader" "parrotTold" "Z" ∈ GW := wt_2 (List.mem_of_getElem? (i := 9) (by decide +kernel)) rfl
theorem mw_208 : Cond.classLink RX11 41 RX8 ∈ GW := wt_2 (List.mem_of_getElem? (i := 12) (by decide +kernel)) rfl
theorem mw_209 : Cond.instantiable RX8 5 ∈ GW := wt_2 (List.mem_of_getElem? (i := 13) (by decide +kernel)) rfl
theorem mw_210 : Cond.instanceMethod yX8_init ∈ GW := wt_2 (List.mem_of_getElem? (i := 15) (by decide +kernel)) rfl
theorem mw_211 : Cond.code yX8_init cX8_init 1 none ∈ GW := wt_2 (List.mem_of_getElem? (i := 16) (by decide +kernel)) rfl
theorem mw_212 : Cond.methodLink RX8 3 objectInit ∈ GW := wt_2 (List.mem_of_getElem? (i := 17) (by decide +kernel)) rfl
theorem mw_213 : Cond.fieldLink RX8 11 "FalseName$Sentence" "step" "[I" ∈ GW := wt_2 (List.mem_of_getElem? (i := 18) (by decide +kernel)) rfl
theorem mw_214 : Cond.fieldLink RX8 15 "FalseName$Sentence" "sign" "[I" ∈ GW := wt_2 (List.mem_of_getElem? (i := 19) (by decide +kernel)) rfl
theorem mw_215 : Cond.fieldLink RX8 18 "FalseName$Sentence" "value" "[I" ∈ GW := wt_2 (List.mem_of_getElem? (i := 20) (by decide +kernel)) rfl
theorem mw_216 : Cond.fieldLink RX8 24 "FalseName$Sentence" "length" "I" ∈ GW := wt_2 (List.mem_of_getElem? (i := 21) (by decide +kernel)) rfl
theorem mw_217 : Cond.fieldLink RX8 21 "FalseName$Sentence" "pile" "[I" ∈ GW := wt_2 (List.mem_of_getElem? (i := 22) (by decide +kernel)) rfl
theorem mw_218 : Cond.laysFinal RX8 "FalseName$Sentence" "step" "[I" ∈ GW := wt_2 (List.mem_of_getElem? (i := 23) (by decide +kernel)) rfl
theorem mw_219 : Cond.laysFinal RX8 "FalseName$Sentence" "sign" "[I" ∈ GW := wt_2 (List.mem_of_getElem? (i := 25) (by decide +kernel)) rfl
theorem mw_220 : Cond.laysFinal RX8 "FalseName$Sentence" "value" "[I" ∈ GW := wt_2 (List.mem_of_getElem? (i := 27) (by decide +kernel)) rfl
theorem mw_221 : Cond.lays RX8 "FalseName$Sentence" "length" "I" ∈ GW := wt_2 (List.mem_of_getElem? (i := 29) (by decide +kernel)) rfl
theorem mw_222 : Cond.laysFinal RX8 "FalseName$Sentence" "pile" "[I" ∈ GW := wt_2 (List.mem_of_getElem? (i := 31) (by decide +kernel)) rfl
theorem mw_223 : Cond.classLink RX11 51 RX9 ∈ GW := wt_2 (List.mem_of_getElem? (i := 34) (by decide +kernel)) rfl
theorem mw_224 : Cond.instantiable RX9 4 ∈ GW := wt_2 (List.mem_of_getElem? (i := 35) (by decide +kernel)) rfl
theorem mw_225 : Cond.methodLink RX11 57 yX9_init ∈ GW := wt_2 (List.mem_of_getElem? (i := 36) (by decide +kernel)) rfl
theorem mw_226 : Cond.instanceMethod yX9_init ∈ GW := wt_2 (List.mem_of_getElem? (i := 37) (by decide +kernel)) rfl
theorem mw_227 : Cond.code yX9_init cX9_init 4 none ∈ GW := wt_2 (List.mem_of_getElem? (i := 38) (by decide +kernel)) rfl
theorem mw_228 : Cond.methodLink RX9 3 objectInit ∈ GW := wt_2 (List.mem_of_getElem? (i := 39) (by decide +kernel)) rfl
theorem mw_229 : Cond.fieldLink RX9 9 "FalseName$SentenceReader" "reader" "LFalseName$Reader;" ∈ GW := wt_2 (List.mem_of_getElem? (i := 40) (by decide +kernel)) rfl
theorem mw_230 : Cond.fieldLink RX9 15 "FalseName$SentenceReader" "names" "LFalseName$NameTable;" ∈ GW := wt_2 (List.mem_of_getElem? (i := 41) (by decide +kernel)) rfl
theorem mw_231 : Cond.fieldLink RX9 19 "FalseName$SentenceReader" "draft" "LFalseName$Sentence;" ∈ GW := wt_2 (List.mem_of_getElem? (i := 42) (by decide +kernel)) rfl
theorem mw_232 : Cond.fieldLink RX9 34 "FalseName$SentenceReader" "ones" "I" ∈ GW := wt_2 (List.mem_of_getElem? (i := 43) (by decide +kernel)) rfl
theorem mw_233 : Cond.laysFinal RX9 "FalseName$SentenceReader" "reader" "LFalseName$Reader;" ∈ GW := wt_2 (List.mem_of_getElem? (i := 44) (by decide +kernel)) rfl
theorem mw_234 : Cond.laysFinal RX9 "FalseName$SentenceReader" "names" "LFalseName$NameTable;" ∈ GW := wt_2 (List.mem_of_getElem? (i := 46) (by decide +kernel)) rfl
theorem mw_235 : Cond.laysFinal RX9 "FalseName$SentenceReader" "draft" "LFalseName$Sentence;" ∈ GW := wt_2 (List.mem_of_getElem? (i := 48) (by decide +kernel)) rfl
theorem mw_236 : Cond.lays RX9 "FalseName$SentenceReader" "ones" "I" ∈ GW := wt_2 (List.mem_of_getElem? (i := 50) (by decide +kernel)) rfl
theorem mw_237 : Cond.classLink RX11 64 RX2 ∈ GW := wt_2 (List.mem_of_getElem? (i := 53) (by decide +kernel)) rfl
theorem mw_238 : Cond.instantiable RX2 11 ∈ GW := wt_2 (List.mem_of_getElem? (i := 54) (by decide +kernel)) rfl
theorem mw_239 : Cond.methodLink RX11 66 yX2_init ∈ GW := wt_2 (List.mem_of_getElem? (i := 55) (by decide +kernel)) rfl
theorem mw_240 : Cond.instanceMethod yX2_init ∈ GW := wt_2 (List.mem_of_getElem? (i := 56) (by decide +kernel)) rfl
theorem mw_241 : Cond.code yX2_init cX2_init 3 none ∈ GW := wt_2 (List.mem_of_getElem? (i := 57) (by decide +kernel)) rfl
theorem mw_242 : Cond.methodLink RX2 3 objectInit ∈ GW := wt_2 (List.mem_of_getElem? (i := 58) (by decide +kernel)) rfl
theorem mw_243 : Cond.fieldLink RX2 21 "FalseName$Log" "reader" "LFalseName$Reader;" ∈ GW := wt_2 (List.mem_of_getElem? (i := 59) (by decide +kernel)) rfl
theorem mw_244 : Cond.fieldLink RX2 25 "FalseName$Log" "names" "LFalseName$NameTable;" ∈ GW := wt_2 (List.mem_of_getElem? (i := 60) (by decide +kernel)) rfl
theorem mw_245 : Cond.fieldLink RX2 9 "FalseName$Log" "act" "[I" ∈ GW := wt_2 (List.mem_of_getElem? (i := 61) (by decide +kernel)) rfl
theorem mw_246 : Cond.fieldLink RX2 15 "FalseName$Log" "what" "[I" ∈ GW := wt_2 (List.mem_of_getElem? (i := 62) (by decide +kernel)) rfl
theorem mw_247 : Cond.fieldLink RX2 18 "FalseName$Log" "who" "[I" ∈ GW := wt_2 (List.mem_of_getElem? (i := 63) (by decide +kernel)) rfl
theorem mw_248 : Cond.fieldLink RX2 35 "FalseName$Log" "lines" "I" ∈ GW := wt_2 (List.mem_of_getElem? (i := 64) (by decide +kernel)) rfl
theorem mw_249 : Cond.fieldLink RX2 81 "FalseName$Log" "judged" "Z" ∈ GW := wt_2 (List.mem_of_getElem? (i := 65) (by decide +kernel)) rfl
theorem mw_250 : Cond.fieldLink RX11 184 "FalseName$Log" "judged" "Z" ∈ GW := wt_2 (List.mem_of_getElem? (i := 66) (by decide +kernel)) rfl
theorem mw_251 : Cond.fieldLink RX2 85 "FalseName$Log" "why" "I" ∈ GW := wt_2 (List.mem_of_getElem? (i := 67) (by decide +kernel)) rfl
theorem mw_252 : Cond.fieldLink RX11 188 "FalseName$Log" "why" "I" ∈ GW := wt_2 (List.mem_of_getElem? (i := 68) (by decide +kernel)) rfl
theorem mw_253 : Cond.fieldLink RX2 88 "FalseName$Log" "right" "I" ∈ GW := wt_2 (List.mem_of_getElem? (i := 69) (by decide +kernel)) rfl
theorem mw_254 : Cond.fieldLink RX11 178 "FalseName$Log" "right" "I" ∈ GW := wt_2 (List.mem_of_getElem? (i := 70) (by decide +kernel)) rfl
theorem mw_255 : Cond.fieldLink RX2 100 "FalseName$Log" "day" "I" ∈ GW := wt_2 (List.mem_of_getElem? (i := 71) (by decide +kernel)) rfl
theorem mw_256 : Cond.fieldLink RX11 191 "FalseName$Log" "day" "I" ∈ GW := wt_2 (List.mem_of_getElem? (i := 72) (by decide +kernel)) rfl
theorem mw_257 : Cond.fieldLink RX2 104 "FalseName$Log" "caught" "Z" ∈ GW := wt_2 (List.mem_of_getElem? (i := 73) (by decide +kernel)) rfl
theorem mw_258 : Cond.fieldLink RX11 194 "FalseName$Log" "caught" "Z" ∈ GW := wt_2 (List.mem_of_getElem? (i := 74) (by decide +kernel)) rfl
theorem mw_259 : Cond.laysFinal RX2 "FalseName$Log" "reader" "LFalseName$Reader;" ∈ GW := wt_2 (List.mem_of_getElem? (i := 75) (by decide +kernel)) rfl
theorem mw_260 : Cond.laysFinal RX2 "FalseName$Log" "names" "LFalseName$NameTable;" ∈ GW := wt_2 (List.mem_of_getElem? (i := 77) (by decide +kernel)) rfl
theorem mw_261 : Cond.laysFinal RX2 "FalseName$Log" "act" "[I" ∈ GW := wt_2 (List.mem_of_getElem? (i := 79) (by decide +kernel)) rfl
theorem mw_262 : Cond.laysFinal RX2 "FalseName$Log" "what" "[I" ∈ GW := wt_2 (List.mem_of_getElem? (i := 81) (by decide +kernel)) rfl
theorem mw_263 : Cond.laysFinal RX2 "FalseName$Log" "who" "[I" ∈ GW := wt_2 (List.mem_of_getElem? (i := 83) (by decide +kernel)) rfl
theorem mw_264 : Cond.lays RX2 "FalseName$Log" "lines" "I" ∈ GW := wt_2 (List.mem_of_getElem? (i := 85) (by decide +kernel)) rfl
theorem mw_265 : Cond.lays RX2 "FalseName$Log" "judged" "Z" ∈ GW := wt_2 (List.mem_of_getElem? (i := 87) (by decide +kernel)) rfl
theorem mw_266 : Cond.lays RX2 "FalseName$Log" "why" "I" ∈ GW := wt_2 (List.mem_of_getElem? (i := 89) (by decide +kernel)) rfl
theorem mw_267 : Cond.lays RX2 "FalseName$Log" "right" "I" ∈ GW := wt_2 (List.mem_of_getElem? (i := 91) (by decide +kernel)) rfl
theorem mw_268 : Cond.lays RX2 "FalseName$Log" "day" "I" ∈ GW := wt_2 (List.mem_of_getElem? (i := 93) (by decide +kernel)) rfl
theorem mw_269 : Cond.lays RX2 "FalseName$Log" "caught" "Z" ∈ GW := wt_2 (List.mem_of_getElem? (i := 95) (by decide +kernel)) rfl
theorem mw_270 : Cond.classLink RX11 73 RX10 ∈ GW := wt_2 (List.mem_of_getElem? (i := 98) (by decide +kernel)) rfl
theorem mw_271 : Cond.instantiable RX10 14 ∈ GW := wt_2 (List.mem_of_getElem? (i := 99) (by decide +kernel)) rfl
theorem mw_272 : Cond.methodLink RX11 75 yX10_init ∈ GW := wt_2 (List.mem_of_getElem? (i := 100) (by decide +kernel)) rfl
theorem mw_273 : Cond.instanceMethod yX10_init ∈ GW := wt_2 (List.mem_of_getElem? (i := 101) (by decide +kernel)) rfl
theorem mw_274 : Cond.code yX10_init cX10_init 2 none ∈ GW := wt_2 (List.mem_of_getElem? (i := 102) (by decide +kernel)) rfl
theorem mw_275 : Cond.methodLink RX10 3 objectInit ∈ GW := wt_2 (List.mem_of_getElem? (i := 103) (by decide +kernel)) rfl
theorem mw_276 : Cond.fieldLink RX10 24 "FalseName$Ship" "sea" "LFalseName$Sea;" ∈ GW := wt_2 (List.mem_of_getElem? (i := 104) (by decide +kernel)) rfl
theorem mw_277 : Cond.fieldLink RX8 34 "FalseName$Ship" "sea" "LFalseName$Sea;" ∈ GW := wt_2 (List.mem_of_getElem? (i := 105) (by decide +kernel)) rfl
theorem mw_278 : Cond.fieldLink RX10 34 "FalseName$Ship" "day" "I" ∈ GW := wt_2 (List.mem_of_getElem? (i := 106) (by decide +kernel)) rfl
theorem mw_279 : Cond.fieldLink RX2 95 "FalseName$Ship" "day" "I" ∈ GW := wt_2 (List.mem_of_getElem? (i := 107) (by decide +kernel)) rfl
theorem mw_280 : Cond.fieldLink RX11 220 "FalseName$Ship" "day" "I" ∈ GW := wt_2 (List.mem_of_getElem? (i := 108) (by decide +kernel)) rfl
theorem mw_281 : Cond.fieldLink RX10 38 "FalseName$Ship" "port" "I" ∈ GW := wt_2 (List.mem_of_getElem? (i := 109) (by decide +kernel)) rfl
theorem mw_282 : Cond.fieldLink RX8 53 "FalseName$Ship" "port" "I" ∈ GW := wt_2 (List.mem_of_getElem? (i := 110) (by decide +kernel)) rfl
theorem mw_283 : Cond.fieldLink RX11 278 "FalseName$Ship" "port" "I" ∈ GW := wt_2 (List.mem_of_getElem? (i := 111) (by decide +kernel)) rfl
theorem mw_284 : Cond.fieldLink RX10 41 "FalseName$Ship" "name" "I" ∈ GW := wt_2 (List.mem_of_getElem? (i := 112) (by decide +kernel)) rfl
theorem mw_285 : Cond.fieldLink RX11 281 "FalseName$Ship" "name" "I" ∈ GW := wt_2 (List.mem_of_getElem? (i := 113) (by decide +kernel)) rfl
theorem mw_286 : Cond.fieldLink RX10 44 "FalseName$Ship" "before" "I" ∈ GW := wt_2 (List.mem_of_getElem? (i := 114) (by decide +kernel)) rfl
theorem mw_287 : Cond.fieldLink RX11 283 "FalseName$Ship" "before" "I" ∈ GW := wt_2 (List.mem_of_getElem? (i := 115) (by decide +kernel)) rfl
theorem mw_288 : Cond.fieldLink RX10 47 "FalseName$Ship" "coin" "I" ∈ GW := wt_2 (List.mem_of_getElem? (i := 116) (by decide +kernel)) rfl
theorem mw_289 : Cond.fieldLink RX11 286 "FalseName$Ship" "coin" "I" ∈ GW := wt_2 (List.mem_of_getElem? (i := 117) (by decide +kernel)) rfl
theorem mw_290 : Cond.fieldLink RX10 50 "FalseName$Ship" "caught" "Z" ∈ GW := wt_2 (List.mem_of_getElem? (i := 118) (by decide +kernel)) rfl
theorem mw_291 : Cond.fieldLink RX2 101 "FalseName$Ship" "caught" "Z" ∈ GW := wt_2 (List.mem_of_getElem? (i := 119) (by decide +kernel)) rfl
theorem mw_292 : Cond.fieldLink RX11 289 "FalseName$Ship" "caught" "Z" ∈ GW := wt_2 (List.mem_of_getElem? (i := 120) (by decide +kernel)) rfl
theorem mw_293 : Cond.fieldLink RX10 54 "FalseName$Ship" "had" "I" ∈ GW := wt_2 (List.mem_of_getElem? (i := 121) (by decide +kernel)) rfl
theorem mw_294 : Cond.fieldLink RX11 290 "FalseName$Ship" "had" "I" ∈ GW := wt_2 (List.mem_of_getElem? (i := 122) (by decide +kernel)) rfl
theorem mw_295 : Cond.fieldLink RX10 57 "FalseName$Ship" "voyages" "I" ∈ GW := wt_2 (List.mem_of_getElem? (i := 123) (by decide +kernel)) rfl
theorem mw_296 : Cond.fieldLink RX11 293 "FalseName$Ship" "voyages" "I" ∈ GW := wt_2 (List.mem_of_getElem? (i := 124) (by decide +kernel)) rfl
theorem mw_297 : Cond.fieldLink RX10 9 "FalseName$Ship" "came" "[I" ∈ GW := wt_2 (List.mem_of_getElem? (i := 125) (by decide +kernel)) rfl
theorem mw_298 : Cond.fieldLink RX11 217 "FalseName$Ship" "came" "[I" ∈ GW := wt_2 (List.mem_of_getElem? (i := 126) (by decide +kernel)) rfl
theorem mw_299 : Cond.fieldLink RX10 15 "FalseName$Ship" "taken" "[I" ∈ GW := wt_2 (List.mem_of_getElem? (i := 127) (by decide +kernel)) rfl
theorem mw_300 : Cond.fieldLink RX10 18 "FalseName$Ship" "skills" "[I" ∈ GW := wt_2 (List.mem_of_getElem? (i := 128) (by decide +kernel)) rfl
theorem mw_301 : Cond.fieldLink RX11 296 "FalseName$Ship" "skills" "[I" ∈ GW := wt_2 (List.mem_of_getElem? (i := 129) (by decide +kernel)) rfl
theorem mw_302 : Cond.fieldLink RX10 21 "FalseName$Ship" "known" "[I" ∈ GW := wt_2 (List.mem_of_getElem? (i := 130) (by decide +kernel)) rfl
theorem mw_303 : Cond.fieldLink RX11 311 "FalseName$Ship" "known" "[I" ∈ GW := wt_2 (List.mem_of_getElem? (i := 131) (by decide +kernel)) rfl
theorem mw_304 : Cond.fieldLink RX10 127 "FalseName$Ship" "seed" "I" ∈ GW := wt_2 (List.mem_of_getElem? (i := 132) (by decide +kernel)) rfl
theorem mw_305 : Cond.laysFinal RX10 "FalseName$Ship" "sea" "LFalseName$Sea;" ∈ GW := wt_2 (List.mem_of_getElem? (i := 133) (by decide +kernel)) rfl
theorem mw_306 : Cond.lays RX10 "FalseName$Ship" "day" "I" ∈ GW := wt_2 (List.mem_of_getElem? (i := 135) (by decide +kernel)) rfl
theorem mw_307 : Cond.lays RX10 "FalseName$Ship" "port" "I" ∈ GW := wt_2 (List.mem_of_getElem? (i := 137) (by decide +kernel)) rfl
theorem mw_308 : Cond.lays RX10 "FalseName$Ship" "name" "I" ∈ GW := wt_2 (List.mem_of_getElem? (i := 139) (by decide +kernel)) rfl
theorem mw_309 : Cond.lays RX10 "FalseName$Ship" "before" "I" ∈ GW := wt_2 (List.mem_of_getElem? (i := 141) (by decide +kernel)) rfl
theorem mw_310 : Cond.lays RX10 "FalseName$Ship" "coin" "I" ∈ GW := wt_2 (List.mem_of_getElem? (i := 143) (by decide +kernel)) rfl
theorem mw_311 : Cond.lays RX10 "FalseName$Ship" "caught" "Z" ∈ GW := wt_2 (List.mem_of_getElem? (i := 145) (by decide +kernel)) rfl
theorem mw_312 : Cond.lays RX10 "FalseName$Ship" "had" "I" ∈ GW := wt_2 (List.mem_of_getElem? (i := 147) (by decide +kernel)) rfl
theorem mw_313 : Cond.lays RX10 "FalseName$Ship" "voyages" "I" ∈ GW := wt_2 (List.mem_of_getElem? (i := 149) (by decide +kernel)) rfl
theorem mw_314 : Cond.laysFinal RX10 "FalseName$Ship" "came" "[I" ∈ GW := wt_2 (List.mem_of_getElem? (i := 151) (by decide +kernel)) rfl
theorem mw_315 : Cond.laysFinal RX10 "FalseName$Ship" "taken" "[I" ∈ GW := wt_2 (List.mem_of_getElem? (i := 153) (by decide +kernel)) rfl
theorem mw_316 : Cond.laysFinal RX10 "FalseName$Ship" "skills" "[I" ∈ GW := wt_2 (List.mem_of_getElem? (i := 155) (by decide +kernel)) rfl
theorem mw_317 : Cond.laysFinal RX10 "FalseName$Ship" "known" "[I" ∈ GW := wt_2 (List.mem_of_getElem? (i := 157) (by decide +kernel)) rfl
theorem mw_318 : Cond.lays RX10 "FalseName$Ship" "seed" "I" ∈ GW := wt_2 (List.mem_of_getElem? (i := 159) (by decide +kernel)) rfl
theorem mw_319 : Cond.classLink RX11 89 RX1 ∈ GW := wt_2 (List.mem_of_getElem? (i := 163) (by decide +kernel)) rfl
theorem mw_320 : Cond.classLink RX11 95 RX0 ∈ GW := wt_2 (List.mem_of_getElem? (i := 165) (by decide +kernel)) rfl
theorem mw_321 : Cond.instantiable RX0 2 ∈ GW := wt_2 (List.mem_of_getElem? (i := 166) (by decide +kernel)) rfl
theorem mw_322 : Cond.methodLink RX11 97 yX0_init ∈ GW := wt_2 (List.mem_of_getElem? (i := 167) (by decide +kernel)) rfl
theorem mw_323 : Cond.instanceMethod yX0_init ∈ GW := wt_2 (List.mem_of_getElem? (i := 168) (by decide +kernel)) rfl
theorem mw_324 : Cond.code yX0_init cX0_init 2 none ∈ GW := wt_2 (List.mem_of_getElem? (i := 169) (by decide +kernel)) rfl
theorem mw_325 : Cond.methodLink RX0 3 objectInit ∈ GW := wt_2 (List.mem_of_getElem? (i := 170) (by decide +kernel)) rfl
theorem mw_326 : Cond.fieldLink RX0 15 "FalseName$Allotment" "sea" "LFalseName$Sea;" ∈ GW := wt_2 (List.mem_of_getElem? (i := 171) (by decide +kernel)) rfl
theorem mw_327 : Cond.fieldLink RX0 9 "FalseName$Allotment" "name" "[I" ∈ GW := wt_2 (List.mem_of_getElem? (i := 172) (by decide +kernel)) rfl
theorem mw_328 : Cond.fieldLink RX11 264 "FalseName$Allotment" "name" "[I" ∈ GW := wt_2 (List.mem_of_getElem? (i := 173) (by decide +kernel)) rfl
theorem mw_329 : Cond.laysFinal RX0 "FalseName$Allotment" "sea" "LFalseName$Sea;" ∈ GW := wt_2 (List.mem_of_getElem? (i := 174) (by decide +kernel)) rfl
theorem mw_330 : Cond.laysFinal RX0 "FalseName$Allotment" "name" "[I" ∈ GW := wt_2 (List.mem_of_getElem? (i := 176) (by decide +kernel)) rfl
theorem mw_331 : Cond.classLink RX11 102 RX5 ∈ GW := wt_2 (List.mem_of_getElem? (i := 179) (by decide +kernel)) rfl
theorem mw_332 : Cond.instantiable RX5 3 ∈ GW := wt_2 (List.mem_of_getElem? (i := 180) (by decide +kernel)) rfl
theorem mw_333 : Cond.methodLink RX11 104 yX5_init ∈ GW := wt_2 (List.mem_of_getElem? (i := 181) (by decide +kernel)) rfl
theorem mw_334 : Cond.instanceMethod yX5_init ∈ GW := wt_2 (List.mem_of_getElem? (i := 182) (by decide +kernel)) rfl
theorem mw_335 : Cond.code yX5_init cX5_init 3 none ∈ GW := wt_2 (List.mem_of_getElem? (i := 183) (by decide +kernel)) rfl
theorem mw_336 : Cond.methodLink RX5 3 objectInit ∈ GW := wt_2 (List.mem_of_getElem? (i := 184) (by decide +kernel)) rfl
theorem mw_337 : Cond.fieldLink RX5 15 "FalseName$Register" "sea" "LFalseName$Sea;" ∈ GW := wt_2 (List.mem_of_getElem? (i := 185) (by decide +kernel)) rfl
theorem mw_338 : Cond.fieldLink RX5 19 "FalseName$Register" "tape" "[B" ∈ GW := wt_2 (List.mem_of_getElem? (i := 186) (by decide +kernel)) rfl
theorem mw_339 : Cond.fieldLink RX5 9 "FalseName$Register" "apart" "[I" ∈ GW := wt_2 (List.mem_of_getElem? (i := 187) (by decide +kernel)) rfl
theorem mw_340 : Cond.laysFinal RX5 "FalseName$Register" "sea" "LFalseName$Sea;" ∈ GW := wt_2 (List.mem_of_getElem? (i := 188) (by decide +kernel)) rfl
theorem mw_341 : Cond.laysFinal RX5 "FalseName$Register" "tape" "[B" ∈ GW := wt_2 (List.mem_of_getElem? (i := 190) (by decide +kernel)) rfl
theorem mw_342 : Cond.laysFinal RX5 "FalseName$Register" "apart" "[I" ∈ GW := wt_2 (List.mem_of_getElem? (i := 192) (by decide +kernel)) rfl
theorem mw_343 : Cond.methodLink RX11 111 yX10_start ∈ GW := wt_2 (List.mem_of_getElem? (i := 195) (by decide +kernel)) rfl
theorem mw_344 : Cond.instanceMethod yX10_start ∈ GW := wt_2 (List.mem_of_getElem? (i := 196) (by decide +kernel)) rfl
theorem mw_345 : Cond.selects RX10 yX10_start yX10_start ∈ GW := wt_2 (List.mem_of_getElem? (i := 197) (by decide +kernel)) rfl
theorem mw_346 : Cond.code yX10_start cX10_start 4 none ∈ GW := wt_2 (List.mem_of_getElem? (i := 198) (by decide +kernel)) rfl
theorem mw_347 : Cond.methodLink RX10 28 yX6_isForHer ∈ GW := wt_2 (List.mem_of_getElem? (i := 199) (by decide +kernel)) rfl
theorem mw_348 : Cond.instanceMethod yX6_isForHer ∈ GW := wt_2 (List.mem_of_getElem? (i := 200) (by decide +kernel)) rfl
theorem mw_349 : Cond.selects RX6 yX6_isForHer yX6_isForHer ∈ GW := wt_2 (List.mem_of_getElem? (i := 201) (by decide +kernel)) rfl
theorem mw_350 : Cond.code yX6_isForHer cX6_isForHer 1 (some FieldType.boolean) ∈ GW := wt_2 (List.mem_of_getElem? (i := 202) (by decide +kernel)) rfl
theorem mw_351 : Cond.methodLink RX10 60 yJ7_fill_53178 ∈ GW := wt_2 (List.mem_of_getElem? (i := 203) (by decide +kernel)) rfl
theorem mw_352 : Cond.static yJ7_fill_53178 ∈ GW := wt_2 (List.mem_of_getElem? (i := 204) (by decide +kernel)) rfl
theorem mw_353 : Cond.code yJ7_fill_53178 cJ7_fill_53178 4 none ∈ GW := wt_2 (List.mem_of_getElem? (i := 205) (by decide +kernel)) rfl
theorem mw_354 : Cond.methodLink RX10 67 ⟨"java/lang/System", "arraycopy", "(Ljava/lang/Object;ILjava/lang/Object;II)V"⟩ ∈ GW := wt_2 (List.mem_of_getElem? (i := 206) (by decide +kernel)) rfl
theorem mw_355 : Cond.static ⟨"java/lang/System", "arraycopy", "(Ljava/lang/Object;ILjava/lang/Object;II)V"⟩ ∈ GW := wt_2 (List.mem_of_getElem? (i := 207) (by decide +kernel)) rfl
theorem mw_356 : Cond.native ⟨"java/lang/System", "arraycopy", "(Ljava/lang/Object;ILjava/lang/Object;II)V"⟩ ∈ GW := wt_2 (List.mem_of_getElem? (i := 208) (by decide +kernel)) rfl
theorem mw_357 : Cond.constant RX10 73 (1000000) ∈ GW := wt_2 (List.mem_of_getElem? (i := 209) (by decide +kernel)) rfl
theorem mw_358 : Cond.methodLink RX10 80 yX10_tell ∈ GW := wt_2 (List.mem_of_getElem? (i := 210) (by decide +kernel)) rfl
theorem mw_359 : Cond.instanceMethod yX10_tell ∈ GW := wt_2 (List.mem_of_getElem? (i := 212) (by decide +kernel)) rfl
theorem mw_360 : Cond.code yX10_tell cX10_tell 5 none ∈ GW := wt_2 (List.mem_of_getElem? (i := 213) (by decide +kernel)) rfl
theorem mw_361 : Cond.methodLink RX10 87 yJ9_min_7cf53 ∈ GW := wt_2 (List.mem_of_getElem? (i := 214) (by decide +kernel)) rfl
theorem mw_362 : Cond.static yJ9_min_7cf53 ∈ GW := wt_2 (List.mem_of_getElem? (i := 215) (by decide +kernel)) rfl
theorem mw_363 : Cond.code yJ9_min_7cf53 cJ9_min_7cf53 2 (some FieldType.int) ∈ GW := wt_2 (List.mem_of_getElem? (i := 216) (by decide +kernel)) rfl
theorem mw_364 : Cond.fieldLink RX11 9 "FalseName" "tape" "[B" ∈ GW := wt_2 (List.mem_of_getElem? (i := 217) (by decide +kernel)) rfl
theorem mw_365 : Cond.fieldLink RX11 114 "FalseName" "tapeSize" "I" ∈ GW := wt_2 (List.mem_of_getElem? (i := 218) (by decide +kernel)) rfl
theorem mw_366 : Cond.fieldLink RX11 18 "FalseName" "reader" "LFalseName$Reader;" ∈ GW := wt_2 (List.mem_of_getElem? (i := 219) (by decide +kernel)) rfl
theorem mw_367 : Cond.fieldLink RX11 133 "FalseName" "latestFault" "I" ∈ GW := wt_2 (List.mem_of_getElem? (i := 220) (by decide +kernel)) rfl
theorem mw_368 : Cond.fieldLink RX11 25 "FalseName" "sea" "LFalseName$Sea;" ∈ GW := wt_2 (List.mem_of_getElem? (i := 221) (by decide +kernel)) rfl
theorem mw_369 : Cond.fieldLink RX11 29 "FalseName" "draftSea" "LFalseName$Sea;" ∈ GW := wt_2 (List.mem_of_getElem? (i := 222) (by decide +kernel)) rfl
theorem mw_370 : Cond.fieldLink RX11 37 "FalseName" "seaReader" "LFalseName$SeaReader;" ∈ GW := wt_2 (List.mem_of_getElem? (i := 223) (by decide +kernel)) rfl
theorem mw_371 : Cond.fieldLink RX11 44 "FalseName" "sentence" "LFalseName$Sentence;" ∈ GW := wt_2 (List.mem_of_getElem? (i := 224) (by decide +kernel)) rfl
theorem mw_372 : Cond.fieldLink RX11 48 "FalseName" "draftSentence" "LFalseName$Sentence;" ∈ GW := wt_2 (List.mem_of_getElem? (i := 225) (by decide +kernel)) rfl
theorem mw_373 : Cond.fieldLink RX11 60 "FalseName" "sentenceReader" "LFalseName$SentenceReader;" ∈ GW := wt_2 (List.mem_of_getElem? (i := 226) (by decide +kernel)) rfl
theorem mw_374 : Cond.fieldLink RX11 69 "FalseName" "log" "LFalseName$Log;" ∈ GW := wt_2 (List.mem_of_getElem? (i := 227) (by decide +kernel)) rfl
theorem mw_375 : Cond.fieldLink RX11 78 "FalseName" "her" "LFalseName$Ship;" ∈ GW := wt_2 (List.mem_of_getElem? (i := 228) (by decide +kernel)) rfl
theorem mw_376 : Cond.fieldLink RX11 82 "FalseName" "trial" "LFalseName$Ship;" ∈ GW := wt_2 (List.mem_of_getElem? (i := 229) (by decide +kernel)) rfl
theorem mw_377 : Cond.fieldLink RX11 85 "FalseName" "past" "[LFalseName$Ship;" ∈ GW := wt_2 (List.mem_of_getElem? (i := 230) (by decide +kernel)) rfl
theorem mw_378 : Cond.fieldLink RX11 145 "FalseName" "pastCount" "I" ∈ GW := wt_2 (List.mem_of_getElem? (i := 231) (by decide +kernel)) rfl
theorem mw_379 : Cond.fieldLink RX11 91 "FalseName" "images" "[LFalseName$Image;" ∈ GW := wt_2 (List.mem_of_getElem? (i := 232) (by decide +kernel)) rfl
theorem mw_380 : Cond.fieldLink RX11 98 "FalseName" "allotment" "LFalseName$Allotment;" ∈ GW := wt_2 (List.mem_of_getElem? (i := 233) (by decide +kernel)) rfl
theorem mw_381 : Cond.fieldLink RX11 107 "FalseName" "register" "LFalseName$Register;" ∈ GW := wt_2 (List.mem_of_getElem? (i := 234) (by decide +kernel)) rfl
theorem mw_382 : Cond.laysFinal RX11 "FalseName" "tape" "[B" ∈ GW := wt_2 (List.mem_of_getElem? (i := 235) (by decide +kernel)) rfl
theorem mw_383 : Cond.lays RX11 "FalseName" "tapeSize" "I" ∈ GW := wt_2 (List.mem_of_getElem? (i := 237) (by decide +kernel)) rfl
theorem mw_384 : Cond.laysFinal RX11 "FalseName" "reader" "LFalseName$Reader;" ∈ GW := wt_2 (List.mem_of_getElem? (i := 239) (by decide +kernel)) rfl
theorem mw_385 : Cond.lays RX11 "FalseName" "latestFault" "I" ∈ GW := wt_3 (List.mem_of_getElem? (i := 1) (by decide +kernel)) rfl
theorem mw_386 : Cond.laysFinal RX11 "FalseName" "sea" "LFalseName$Sea;" ∈ GW := wt_3 (List.mem_of_getElem? (i := 3) (by decide +kernel)) rfl
theorem mw_387 : Cond.laysFinal RX11 "FalseName" "draftSea" "LFalseName$Sea;" ∈ GW := wt_3 (List.mem_of_getElem? (i := 5) (by decide +kernel)) rfl
theorem mw_388 : Cond.laysFinal RX11 "FalseName" "seaReader" "LFalseName$SeaReader;" ∈ GW := wt_3 (List.mem_of_getElem? (i := 7) (by decide +kernel)) rfl
theorem mw_389 : Cond.laysFinal RX11 "FalseName" "sentence" "LFalseName$Sentence;" ∈ GW := wt_3 (List.mem_of_getElem? (i := 9) (by decide +kernel)) rfl
theorem mw_390 : Cond.laysFinal RX11 "FalseName" "draftSentence" "LFalseName$Sentence;" ∈ GW := wt_3 (List.mem_of_getElem? (i := 11) (by decide +kernel)) rfl
theorem mw_391 : Cond.laysFinal RX11 "FalseName" "sentenceReader" "LFalseName$SentenceReader;" ∈ GW := wt_3 (List.mem_of_getElem? (i := 13) (by decide +kernel)) rfl
theorem mw_392 : Cond.laysFinal RX11 "FalseName" "log" "LFalseName$Log;" ∈ GW := wt_3 (List.mem_of_getElem? (i := 15) (by decide +kernel)) rfl
theorem mw_393 : Cond.lays RX11 "FalseName" "her" "LFalseName$Ship;" ∈ GW := wt_3 (List.mem_of_getElem? (i := 17) (by decide +kernel)) rfl
theorem mw_394 : Cond.lays RX11 "FalseName" "trial" "LFalseName$Ship;" ∈ GW := wt_3 (List.mem_of_getElem? (i := 19) (by decide +kernel)) rfl
theorem mw_395 : Cond.laysFinal RX11 "FalseName" "past" "[LFalseName$Ship;" ∈ GW := wt_3 (List.mem_of_getElem? (i := 21) (by decide +kernel)) rfl
theorem mw_396 : Cond.lays RX11 "FalseName" "pastCount" "I" ∈ GW := wt_3 (List.mem_of_getElem? (i := 23) (by decide +kernel)) rfl
theorem mw_397 : Cond.laysFinal RX11 "FalseName" "images" "[LFalseName$Image;" ∈ GW := wt_3 (List.mem_of_getElem? (i := 25) (by decide +kernel)) rfl
theorem mw_398 : Cond.laysFinal RX11 "FalseName" "allotment" "LFalseName$Allotment;" ∈ GW := wt_3 (List.mem_of_getElem? (i := 27) (by decide +kernel)) rfl
theorem mw_399 : Cond.laysFinal RX11 "FalseName" "register" "LFalseName$Register;" ∈ GW := wt_3 (List.mem_of_getElem? (i := 29) (by decide +kernel)) rfl
theorem mw_400 : Cond.methodLink RL 26 yX11_feed ∈ GW := wt_3 (List.mem_of_getElem? (i := 32) (by decide +kernel)) rfl
theorem mw_401 : Cond.instanceMethod yX11_feed ∈ GW := wt_3 (List.mem_of_getElem? (i := 33) (by decide +kernel)) rfl
theorem mw_402 : Cond.selects RX11 yX11_feed yX11_feed ∈ GW := wt_3 (List.mem_of_getElem? (i := 34) (by decide +kernel)) rfl
theorem mw_403 : Cond.code yX11_feed cX11_feed 6 (some FieldType.int) ∈ GW := wt_3 (List.mem_of_getElem? (i := 35) (by decide +kernel)) rfl
theorem mw_404 : Cond.methodLink RX11 118 yX11_putBytes ∈ GW := wt_3 (List.mem_of_getElem? (i := 36) (by decide +kernel)) rfl
theorem mw_405 : Cond.instanceMethod yX11_putBytes ∈ GW := wt_3 (List.mem_of_getElem? (i := 38) (by decide +kernel)) rfl
theorem mw_406 : Cond.code yX11_putBytes cX11_putBytes 3 none ∈ GW := wt_3 (List.mem_of_getElem? (i := 39) (by decide +kernel)) rfl
theorem mw_407 : Cond.methodLink RL 31 yX11_end ∈ GW := wt_3 (List.mem_of_getElem? (i := 40) (by decide +kernel)) rfl
theorem mw_408 : Cond.instanceMethod yX11_end ∈ GW := wt_3 (List.mem_of_getElem? (i := 41) (by decide +kernel)) rfl
theorem mw_409 : Cond.selects RX11 yX11_end yX11_end ∈ GW := wt_3 (List.mem_of_getElem? (i := 42) (by decide +kernel)) rfl
theorem mw_410 : Cond.code yX11_end cX11_end 2 (some FieldType.boolean) ∈ GW := wt_3 (List.mem_of_getElem? (i := 43) (by decide +kernel)) rfl
theorem mw_411 : Cond.methodLink RL 36 yX11_sea ∈ GW := wt_3 (List.mem_of_getElem? (i := 44) (by decide +kernel)) rfl
theorem mw_412 : Cond.instanceMethod yX11_sea ∈ GW := wt_3 (List.mem_of_getElem? (i := 45) (by decide +kernel)) rfl
theorem mw_413 : Cond.selects RX11 yX11_sea yX11_sea ∈ GW := wt_3 (List.mem_of_getElem? (i := 46) (by decide +kernel)) rfl
theorem mw_414 : Cond.code yX11_sea cX11_sea 2 (some FieldType.int) ∈ GW := wt_3 (List.mem_of_getElem? (i := 47) (by decide +kernel)) rfl
theorem mw_415 : Cond.methodLink RX11 122 yX11_takeTape ∈ GW := wt_3 (List.mem_of_getElem? (i := 48) (by decide +kernel)) rfl
theorem mw_416 : Cond.instanceMethod yX11_takeTape ∈ GW := wt_3 (List.mem_of_getElem? (i := 50) (by decide +kernel)) rfl
theorem mw_417 : Cond.code yX11_takeTape cX11_takeTape 2 (some FieldType.int) ∈ GW := wt_3 (List.mem_of_getElem? (i := 51) (by decide +kernel)) rfl
theorem mw_418 : Cond.methodLink RX11 126 yX7_read ∈ GW := wt_3 (List.mem_of_getElem? (i := 52) (by decide +kernel)) rfl
theorem mw_419 : Cond.instanceMethod yX7_read ∈ GW := wt_3 (List.mem_of_getElem? (i := 53) (by decide +kernel)) rfl
theorem mw_420 : Cond.selects RX7 yX7_read yX7_read ∈ GW := wt_3 (List.mem_of_getElem? (i := 54) (by decide +kernel)) rfl
theorem mw_421 : Cond.code yX7_read cX7_read 3 (some FieldType.int) ∈ GW := wt_3 (List.mem_of_getElem? (i := 55) (by decide +kernel)) rfl
theorem mw_422 : Cond.methodLink RX7 19 yX4_open ∈ GW := wt_3 (List.mem_of_getElem? (i := 56) (by decide +kernel)) rfl
theorem mw_423 : Cond.instanceMethod yX4_open ∈ GW := wt_3 (List.mem_of_getElem? (i := 57) (by decide +kernel)) rfl
theorem mw_424 : Cond.selects RX4 yX4_open yX4_open ∈ GW := wt_3 (List.mem_of_getElem? (i := 58) (by decide +kernel)) rfl
theorem mw_425 : Cond.code yX4_open cX4_open 3 none ∈ GW := wt_3 (List.mem_of_getElem? (i := 59) (by decide +kernel)) rfl
theorem mw_426 : Cond.methodLink RX4 31 yJ9_min_7cf53 ∈ GW := wt_3 (List.mem_of_getElem? (i := 60) (by decide +kernel)) rfl
theorem mw_427 : Cond.methodLink RX4 53 yX4_step ∈ GW := wt_3 (List.mem_of_getElem? (i := 61) (by decide +kernel)) rfl
theorem mw_428 : Cond.instanceMethod yX4_step ∈ GW := wt_3 (List.mem_of_getElem? (i := 62) (by decide +kernel)) rfl
theorem mw_429 : Cond.selects RX4 yX4_step yX4_step ∈ GW := wt_3 (List.mem_of_getElem? (i := 63) (by decide +kernel)) rfl
theorem mw_430 : Cond.code yX4_step cX4_step 3 none ∈ GW := wt_3 (List.mem_of_getElem? (i := 64) (by decide +kernel)) rfl
theorem mw_431 : Cond.methodLink RX4 65 yX4_readRun ∈ GW := wt_3 (List.mem_of_getElem? (i := 65) (by decide +kernel)) rfl
theorem mw_432 : Cond.instanceMethod yX4_readRun ∈ GW := wt_3 (List.mem_of_getElem? (i := 67) (by decide +kernel)) rfl
theorem mw_433 : Cond.code yX4_readRun cX4_readRun 4 (some FieldType.int) ∈ GW := wt_3 (List.mem_of_getElem? (i := 68) (by decide +kernel)) rfl
theorem mw_434 : Cond.methodLink RX4 70 yJ0_indexOf_0f7a4 ∈ GW := wt_3 (List.mem_of_getElem? (i := 70) (by decide +kernel)) rfl
theorem mw_435 : Cond.instanceMethod yJ0_indexOf_0f7a4 ∈ GW := wt_3 (List.mem_of_getElem? (i := 71) (by decide +kernel)) rfl
theorem mw_436 : Cond.selects RJ0 yJ0_indexOf_0f7a4 yJ0_indexOf_0f7a4 ∈ GW := wt_3 (List.mem_of_getElem? (i := 72) (by decide +kernel)) rfl
theorem mw_437 : Cond.code yJ0_indexOf_0f7a4 cJ0_indexOf_0f7a4 2 (some FieldType.int) ∈ GW := wt_3 (List.mem_of_getElem? (i := 73) (by decide +kernel)) rfl
theorem mw_438 : Cond.methodLink RJ0 633 yJ0_indexOf_7cf53 ∈ GW := wt_3 (List.mem_of_getElem? (i := 74) (by decide +kernel)) rfl
theorem mw_439 : Cond.instanceMethod yJ0_indexOf_7cf53 ∈ GW := wt_3 (List.mem_of_getElem? (i := 75) (by decide +kernel)) rfl
theorem mw_440 : Cond.selects RJ0 yJ0_indexOf_7cf53 yJ0_indexOf_7cf53 ∈ GW := wt_3 (List.mem_of_getElem? (i := 76) (by decide +kernel)) rfl
theorem mw_441 : Cond.code yJ0_indexOf_7cf53 cJ0_indexOf_7cf53 3 (some FieldType.int) ∈ GW := wt_3 (List.mem_of_getElem? (i := 77) (by decide +kernel)) rfl
theorem mw_442 : Cond.methodLink RJ0 505 yJ0_length_8abf5 ∈ GW := wt_3 (List.mem_of_getElem? (i := 78) (by decide +kernel)) rfl
theorem mw_443 : Cond.methodLink RJ0 637 yJ1_indexOf_4cfef ∈ GW := wt_3 (List.mem_of_getElem? (i := 79) (by decide +kernel)) rfl
theorem mw_444 : Cond.static yJ1_indexOf_4cfef ∈ GW := wt_3 (List.mem_of_getElem? (i := 80) (by decide +kernel)) rfl
theorem mw_445 : Cond.code yJ1_indexOf_4cfef cJ1_indexOf_4cfef 4 (some FieldType.int) ∈ GW := wt_3 (List.mem_of_getElem? (i := 81) (by decide +kernel)) rfl
theorem mw_446 : Cond.methodLink RJ1 88 yJ1_canEncode_9a6ad ∈ GW := wt_3 (List.mem_of_getElem? (i := 82) (by decide +kernel)) rfl
theorem mw_447 : Cond.static yJ1_canEncode_9a6ad ∈ GW := wt_3 (List.mem_of_getElem? (i := 83) (by decide +kernel)) rfl
theorem mw_448 : Cond.code yJ1_canEncode_9a6ad cJ1_canEncode_9a6ad 1 (some FieldType.boolean) ∈ GW := wt_3 (List.mem_of_getElem? (i := 84) (by decide +kernel)) rfl
theorem mw_449 : Cond.methodLink RJ1 92 yJ9_max_7cf53 ∈ GW := wt_3 (List.mem_of_getElem? (i := 85) (by decide +kernel)) rfl
theorem mw_450 : Cond.static yJ9_max_7cf53 ∈ GW := wt_3 (List.mem_of_getElem? (i := 86) (by decide +kernel)) rfl
theorem mw_451 : Cond.code yJ9_max_7cf53 cJ9_max_7cf53 2 (some FieldType.int) ∈ GW := wt_3 (List.mem_of_getElem? (i := 87) (by decide +kernel)) rfl
theorem mw_452 : Cond.methodLink RJ1 38 yJ9_min_7cf53 ∈ GW := wt_3 (List.mem_of_getElem? (i := 88) (by decide +kernel)) rfl
theorem mw_453 : Cond.methodLink RJ1 95 yJ1_indexOfChar_4cfef ∈ GW := wt_3 (List.mem_of_getElem? (i := 89) (by decide +kernel)) rfl
theorem mw_454 : Cond.static yJ1_indexOfChar_4cfef ∈ GW := wt_3 (List.mem_of_getElem? (i := 90) (by decide +kernel)) rfl
theorem mw_455 : Cond.code yJ1_indexOfChar_4cfef cJ1_indexOfChar_4cfef 6 (some FieldType.int) ∈ GW := wt_3 (List.mem_of_getElem? (i := 91) (by decide +kernel)) rfl
theorem mw_456 : Cond.methodLink RJ0 640 yJ2_indexOf_4cfef ∈ GW := wt_3 (List.mem_of_getElem? (i := 92) (by decide +kernel)) rfl
theorem mw_457 : Cond.static yJ2_indexOf_4cfef ∈ GW := wt_3 (List.mem_of_getElem? (i := 93) (by decide +kernel)) rfl
theorem mw_458 : Cond.code yJ2_indexOf_4cfef cJ2_indexOf_4cfef 4 (some FieldType.int) ∈ GW := wt_3 (List.mem_of_getElem? (i := 94) (by decide +kernel)) rfl
theorem mw_459 : Cond.methodLink RJ2 224 yJ9_max_7cf53 ∈ GW := wt_3 (List.mem_of_getElem? (i := 95) (by decide +kernel)) rfl
theorem mw_460 : Cond.methodLink RJ2 183 yJ9_min_7cf53 ∈ GW := wt_3 (List.mem_of_getElem? (i := 96) (by decide +kernel)) rfl
theorem mw_461 : Cond.constant RJ2 227 (65536) ∈ GW := wt_3 (List.mem_of_getElem? (i := 97) (by decide +kernel)) rfl
theorem mw_462 : Cond.methodLink RJ2 228 yJ2_indexOfChar_4cfef ∈ GW := wt_3 (List.mem_of_getElem? (i := 98) (by decide +kernel)) rfl
theorem mw_463 : Cond.static yJ2_indexOfChar_4cfef ∈ GW := wt_3 (List.mem_of_getElem? (i := 99) (by decide +kernel)) rfl
theorem mw_464 : Cond.code yJ2_indexOfChar_4cfef cJ2_indexOfChar_4cfef 4 (some FieldType.int) ∈ GW := wt_3 (List.mem_of_getElem? (i := 100) (by decide +kernel)) rfl
theorem mw_465 : Cond.methodLink RJ2 96 yJ2_checkBoundsBeginEnd_d044e ∈ GW := wt_3 (List.mem_of_getElem? (i := 101) (by decide +kernel)) rfl
theorem mw_466 : Cond.static yJ2_checkBoundsBeginEnd_d044e ∈ GW := wt_3 (List.mem_of_getElem? (i := 102) (by decide +kernel)) rfl
theorem mw_467 : Cond.code yJ2_checkBoundsBeginEnd_d044e cJ2_checkBoundsBeginEnd_d044e 3 none ∈ GW := wt_3 (List.mem_of_getElem? (i := 103) (by decide +kernel)) rfl
theorem mw_468 : Cond.methodLink RJ2 241 yJ0_checkBoundsBeginEnd_23922 ∈ GW := wt_3 (List.mem_of_getElem? (i := 104) (by decide +kernel)) rfl
theorem mw_469 : Cond.static yJ0_checkBoundsBeginEnd_23922 ∈ GW := wt_3 (List.mem_of_getElem? (i := 105) (by decide +kernel)) rfl
theorem mw_470 : Cond.code yJ0_checkBoundsBeginEnd_23922 cJ0_checkBoundsBeginEnd_23922 3 none ∈ GW := wt_3 (List.mem_of_getElem? (i := 106) (by decide +kernel)) rfl
theorem mw_471 : Cond.methodLink RJ0 1062 yJ3_checkFromToIndex_8c36e ∈ GW := wt_3 (List.mem_of_getElem? (i := 107) (by decide +kernel)) rfl
theorem mw_472 : Cond.static yJ3_checkFromToIndex_8c36e ∈ GW := wt_3 (List.mem_of_getElem? (i := 108) (by decide +kernel)) rfl
theorem mw_473 : Cond.code yJ3_checkFromToIndex_8c36e cJ3_checkFromToIndex_8c36e 4 (some FieldType.int) ∈ GW := wt_3 (List.mem_of_getElem? (i := 109) (by decide +kernel)) rfl
theorem mw_474 : Cond.methodLink RJ2 244 yJ2_indexOfCharUnsafe_4cfef ∈ GW := wt_3 (List.mem_of_getElem? (i := 110) (by decide +kernel)) rfl
theorem mw_475 : Cond.static yJ2_indexOfCharUnsafe_4cfef ∈ GW := wt_3 (List.mem_of_getElem? (i := 111) (by decide +kernel)) rfl
theorem mw_476 : Cond.code yJ2_indexOfCharUnsafe_4cfef cJ2_indexOfCharUnsafe_4cfef 5 (some FieldType.int) ∈ GW := wt_3 (List.mem_of_getElem? (i := 112) (by decide +kernel)) rfl
theorem mw_477 : Cond.methodLink RJ2 232 yJ2_indexOfSupplementary_4cfef ∈ GW := wt_3 (List.mem_of_getElem? (i := 113) (by decide +kernel)) rfl
theorem mw_478 : Cond.static yJ2_indexOfSupplementary_4cfef ∈ GW := wt_3 (List.mem_of_getElem? (i := 114) (by decide +kernel)) rfl
theorem mw_479 : Cond.code yJ2_indexOfSupplementary_4cfef cJ2_indexOfSupplementary_4cfef 7 (some FieldType.int) ∈ GW := wt_3 (List.mem_of_getElem? (i := 115) (by decide +kernel)) rfl
theorem mw_480 : Cond.methodLink RJ2 164 yJ11_isValidCodePoint_9a6ad ∈ GW := wt_3 (List.mem_of_getElem? (i := 116) (by decide +kernel)) rfl
theorem mw_481 : Cond.static yJ11_isValidCodePoint_9a6ad ∈ GW := wt_3 (List.mem_of_getElem? (i := 117) (by decide +kernel)) rfl
theorem mw_482 : Cond.code yJ11_isValidCodePoint_9a6ad cJ11_isValidCodePoint_9a6ad 2 (some FieldType.boolean) ∈ GW := wt_3 (List.mem_of_getElem? (i := 118) (by decide +kernel)) rfl
theorem mw_483 : Cond.methodLink RJ2 157 yJ11_highSurrogate_5068e ∈ GW := wt_3 (List.mem_of_getElem? (i := 119) (by decide +kernel)) rfl
theorem mw_484 : Cond.static yJ11_highSurrogate_5068e ∈ GW := wt_3 (List.mem_of_getElem? (i := 120) (by decide +kernel)) rfl
theorem mw_485 : Cond.code yJ11_highSurrogate_5068e cJ11_highSurrogate_5068e 1 (some FieldType.char) ∈ GW := wt_3 (List.mem_of_getElem? (i := 121) (by decide +kernel)) rfl
theorem mw_486 : Cond.constant RJ11 110 (55232) ∈ GW := wt_3 (List.mem_of_getElem? (i := 122) (by decide +kernel)) rfl
theorem mw_487 : Cond.methodLink RJ2 161 yJ11_lowSurrogate_5068e ∈ GW := wt_3 (List.mem_of_getElem? (i := 123) (by decide +kernel)) rfl
theorem mw_488 : Cond.static yJ11_lowSurrogate_5068e ∈ GW := wt_3 (List.mem_of_getElem? (i := 124) (by decide +kernel)) rfl
theorem mw_489 : Cond.code yJ11_lowSurrogate_5068e cJ11_lowSurrogate_5068e 1 (some FieldType.char) ∈ GW := wt_3 (List.mem_of_getElem? (i := 125) (by decide +kernel)) rfl
theorem mw_490 : Cond.constant RJ11 76 (56320) ∈ GW := wt_3 (List.mem_of_getElem? (i := 126) (by decide +kernel)) rfl
theorem mw_491 : Cond.methodLink RX4 74 yX4_findReserved ∈ GW := wt_3 (List.mem_of_getElem? (i := 127) (by decide +kernel)) rfl
theorem mw_492 : Cond.instanceMethod yX4_findReserved ∈ GW := wt_3 (List.mem_of_getElem? (i := 129) (by decide +kernel)) rfl
theorem mw_493 : Cond.code yX4_findReserved cX4_findReserved 2 (some FieldType.int) ∈ GW := wt_3 (List.mem_of_getElem? (i := 130) (by decide +kernel)) rfl
theorem mw_494 : Cond.methodLink RX7 25 yX6_clear ∈ GW := wt_3 (List.mem_of_getElem? (i := 131) (by decide +kernel)) rfl
theorem mw_495 : Cond.instanceMethod yX6_clear ∈ GW := wt_3 (List.mem_of_getElem? (i := 132) (by decide +kernel)) rfl
theorem mw_496 : Cond.selects RX6 yX6_clear yX6_clear ∈ GW := wt_3 (List.mem_of_getElem? (i := 133) (by decide +kernel)) rfl
theorem mw_497 : Cond.code yX6_clear cX6_clear 1 none ∈ GW := wt_3 (List.mem_of_getElem? (i := 134) (by decide +kernel)) rfl
theorem mw_498 : Cond.methodLink RX6 56 yJ7_fill_53178 ∈ GW := wt_3 (List.mem_of_getElem? (i := 135) (by decide +kernel)) rfl
theorem mw_499 : Cond.methodLink RX7 38 yX7_readLine ∈ GW := wt_3 (List.mem_of_getElem? (i := 136) (by decide +kernel)) rfl
theorem mw_500 : Cond.instanceMethod yX7_readLine ∈ GW := wt_3 (List.mem_of_getElem? (i := 138) (by decide +kernel)) rfl
theorem mw_501 : Cond.code yX7_readLine cX7_readLine 2 (some FieldType.boolean) ∈ GW := wt_3 (List.mem_of_getElem? (i := 139) (by decide +kernel)) rfl
theorem mw_502 : Cond.methodLink RX7 51 yX4_refuse ∈ GW := wt_3 (List.mem_of_getElem? (i := 140) (by decide +kernel)) rfl
theorem mw_503 : Cond.instanceMethod yX4_refuse ∈ GW := wt_3 (List.mem_of_getElem? (i := 141) (by decide +kernel)) rfl
theorem mw_504 : Cond.selects RX4 yX4_refuse yX4_refuse ∈ GW := wt_3 (List.mem_of_getElem? (i := 142) (by decide +kernel)) rfl
theorem mw_505 : Cond.code yX4_refuse cX4_refuse 2 (some FieldType.boolean) ∈ GW := wt_3 (List.mem_of_getElem? (i := 143) (by decide +kernel)) rfl
theorem mw_506 : Cond.methodLink RX7 62 yX4_step ∈ GW := wt_3 (List.mem_of_getElem? (i := 146) (by decide +kernel)) rfl
theorem mw_507 : Cond.methodLink RX7 65 yX7_readRest ∈ GW := wt_3 (List.mem_of_getElem? (i := 147) (by decide +kernel)) rfl
theorem mw_508 : Cond.instanceMethod yX7_readRest ∈ GW := wt_3 (List.mem_of_getElem? (i := 149) (by decide +kernel)) rfl
theorem mw_509 : Cond.code yX7_readRest cX7_readRest 2 (some FieldType.boolean) ∈ GW := wt_3 (List.mem_of_getElem? (i := 150) (by decide +kernel)) rfl
theorem mw_510 : Cond.methodLink RX7 75 yX7_readPair ∈ GW := wt_3 (List.mem_of_getElem? (i := 151) (by decide +kernel)) rfl
theorem mw_511 : Cond.instanceMethod yX7_readPair ∈ GW := wt_3 (List.mem_of_getElem? (i := 153) (by decide +kernel)) rfl
theorem mw_512 : Cond.code yX7_readPair cX7_readPair 9 (some FieldType.boolean) ∈ GW := wt_3 (List.mem_of_getElem? (i := 154) (by decide +kernel)) rfl
theorem mw_513 : Cond.methodLink RX7 127 yX4_look ∈ GW := wt_3 (List.mem_of_getElem? (i := 155) (by decide +kernel)) rfl
theorem mw_514 : Cond.instanceMethod yX4_look ∈ GW := wt_3 (List.mem_of_getElem? (i := 156) (by decide +kernel)) rfl
theorem mw_515 : Cond.selects RX4 yX4_look yX4_look ∈ GW := wt_3 (List.mem_of_getElem? (i := 157) (by decide +kernel)) rfl
theorem mw_516 : Cond.code yX4_look cX4_look 4 (some FieldType.int) ∈ GW := wt_3 (List.mem_of_getElem? (i := 158) (by decide +kernel)) rfl
theorem mw_517 : Cond.methodLink RX4 88 yX4_isName ∈ GW := wt_3 (List.mem_of_getElem? (i := 159) (by decide +kernel)) rfl
theorem mw_518 : Cond.instanceMethod yX4_isName ∈ GW := wt_3 (List.mem_of_getElem? (i := 160) (by decide +kernel)) rfl
theorem mw_519 : Cond.selects RX4 yX4_isName yX4_isName ∈ GW := wt_3 (List.mem_of_getElem? (i := 161) (by decide +kernel)) rfl
theorem mw_520 : Cond.code yX4_isName cX4_isName 1 (some FieldType.boolean) ∈ GW := wt_3 (List.mem_of_getElem? (i := 162) (by decide +kernel)) rfl
theorem mw_521 : Cond.methodLink RX4 84 yX4_refuse ∈ GW := wt_3 (List.mem_of_getElem? (i := 163) (by decide +kernel)) rfl
theorem mw_522 : Cond.methodLink RX4 92 yX3_find ∈ GW := wt_3 (List.mem_of_getElem? (i := 164) (by decide +kernel)) rfl
theorem mw_523 : Cond.instanceMethod yX3_find ∈ GW := wt_3 (List.mem_of_getElem? (i := 165) (by decide +kernel)) rfl
theorem mw_524 : Cond.selects RX3 yX3_find yX3_find ∈ GW := wt_3 (List.mem_of_getElem? (i := 166) (by decide +kernel)) rfl
theorem mw_525 : Cond.code yX3_find cX3_find 5 (some FieldType.int) ∈ GW := wt_3 (List.mem_of_getElem? (i := 167) (by decide +kernel)) rfl
theorem mw_526 : Cond.methodLink RX7 134 yX4_lookNumber ∈ GW := wt_3 (List.mem_of_getElem? (i := 168) (by decide +kernel)) rfl
theorem mw_527 : Cond.instanceMethod yX4_lookNumber ∈ GW := wt_3 (List.mem_of_getElem? (i := 169) (by decide +kernel)) rfl
theorem mw_528 : Cond.selects RX4 yX4_lookNumber yX4_lookNumber ∈ GW := wt_3 (List.mem_of_getElem? (i := 170) (by decide +kernel)) rfl
theorem mw_529 : Cond.code yX4_lookNumber cX4_lookNumber 3 (some FieldType.int) ∈ GW := wt_3 (List.mem_of_getElem? (i := 171) (by decide +kernel)) rfl
theorem mw_530 : Cond.methodLink RX7 79 yX7_mirrorWays ∈ GW := wt_3 (List.mem_of_getElem? (i := 172) (by decide +kernel)) rfl
theorem mw_531 : Cond.instanceMethod yX7_mirrorWays ∈ GW := wt_3 (List.mem_of_getElem? (i := 174) (by decide +kernel)) rfl
theorem mw_532 : Cond.code yX7_mirrorWays cX7_mirrorWays 4 (some FieldType.boolean) ∈ GW := wt_3 (List.mem_of_getElem? (i := 175) (by decide +kernel)) rfl
theorem mw_533 : Cond.methodLink RX7 138 yJ9_max_7cf53 ∈ GW := wt_3 (List.mem_of_getElem? (i := 176) (by decide +kernel)) rfl
theorem mw_534 : Cond.methodLink RX7 94 yX7_readRain ∈ GW := wt_3 (List.mem_of_getElem? (i := 177) (by decide +kernel)) rfl
theorem mw_535 : Cond.instanceMethod yX7_readRain ∈ GW := wt_3 (List.mem_of_getElem? (i := 179) (by decide +kernel)) rfl
theorem mw_536 : Cond.code yX7_readRain cX7_readRain 3 (some FieldType.boolean) ∈ GW := wt_3 (List.mem_of_getElem? (i := 180) (by decide +kernel)) rfl
theorem mw_537 : Cond.methodLink RX7 143 yX6_rainsAt ∈ GW := wt_3 (List.mem_of_getElem? (i := 181) (by decide +kernel)) rfl
theorem mw_538 : Cond.instanceMethod yX6_rainsAt ∈ GW := wt_3 (List.mem_of_getElem? (i := 182) (by decide +kernel)) rfl
theorem mw_539 : Cond.selects RX6 yX6_rainsAt yX6_rainsAt ∈ GW := wt_3 (List.mem_of_getElem? (i := 183) (by decide +kernel)) rfl
theorem mw_540 : Cond.code yX6_rainsAt cX6_rainsAt 5 (some FieldType.boolean) ∈ GW := wt_3 (List.mem_of_getElem? (i := 184) (by decide +kernel)) rfl
theorem mw_541 : Cond.methodLink RX7 97 yX7_readParrot ∈ GW := wt_3 (List.mem_of_getElem? (i := 185) (by decide +kernel)) rfl
theorem mw_542 : Cond.instanceMethod yX7_readParrot ∈ GW := wt_3 (List.mem_of_getElem? (i := 187) (by decide +kernel)) rfl
theorem mw_543 : Cond.code yX7_readParrot cX7_readParrot 2 (some FieldType.boolean) ∈ GW := wt_3 (List.mem_of_getElem? (i := 188) (by decide +kernel)) rfl
theorem mw_544 : Cond.methodLink RX7 100 yX7_readName ∈ GW := wt_3 (List.mem_of_getElem? (i := 189) (by decide +kernel)) rfl
theorem mw_545 : Cond.instanceMethod yX7_readName ∈ GW := wt_3 (List.mem_of_getElem? (i := 191) (by decide +kernel)) rfl
theorem mw_546 : Cond.code yX7_readName cX7_readName 2 (some FieldType.boolean) ∈ GW := wt_3 (List.mem_of_getElem? (i := 192) (by decide +kernel)) rfl
theorem mw_547 : Cond.methodLink RX7 106 yX4_isName ∈ GW := wt_3 (List.mem_of_getElem? (i := 193) (by decide +kernel)) rfl
theorem mw_548 : Cond.methodLink RX7 117 yX3_isTold ∈ GW := wt_3 (List.mem_of_getElem? (i := 194) (by decide +kernel)) rfl
theorem mw_549 : Cond.instanceMethod yX3_isTold ∈ GW := wt_3 (List.mem_of_getElem? (i := 195) (by decide +kernel)) rfl
theorem mw_550 : Cond.selects RX3 yX3_isTold yX3_isTold ∈ GW := wt_3 (List.mem_of_getElem? (i := 196) (by decide +kernel)) rfl
theorem mw_551 : Cond.code yX3_isTold cX3_isTold 4 (some FieldType.boolean) ∈ GW := wt_3 (List.mem_of_getElem? (i := 197) (by decide +kernel)) rfl
theorem mw_552 : Cond.methodLink RX7 123 yX3_add ∈ GW := wt_3 (List.mem_of_getElem? (i := 198) (by decide +kernel)) rfl
theorem mw_553 : Cond.instanceMethod yX3_add ∈ GW := wt_3 (List.mem_of_getElem? (i := 199) (by decide +kernel)) rfl
theorem mw_554 : Cond.selects RX3 yX3_add yX3_add ∈ GW := wt_3 (List.mem_of_getElem? (i := 200) (by decide +kernel)) rfl
theorem mw_555 : Cond.code yX3_add cX3_add 5 none ∈ GW := wt_3 (List.mem_of_getElem? (i := 201) (by decide +kernel)) rfl
theorem mw_556 : Cond.methodLink RX7 103 yX7_readSkills ∈ GW := wt_3 (List.mem_of_getElem? (i := 202) (by decide +kernel)) rfl
theorem mw_557 : Cond.instanceMethod yX7_readSkills ∈ GW := wt_3 (List.mem_of_getElem? (i := 204) (by decide +kernel)) rfl
theorem mw_558 : Cond.code yX7_readSkills cX7_readSkills 4 (some FieldType.boolean) ∈ GW := wt_3 (List.mem_of_getElem? (i := 205) (by decide +kernel)) rfl
theorem mw_559 : Cond.methodLink RX7 68 yX4_passSign ∈ GW := wt_3 (List.mem_of_getElem? (i := 206) (by decide +kernel)) rfl
theorem mw_560 : Cond.instanceMethod yX4_passSign ∈ GW := wt_3 (List.mem_of_getElem? (i := 207) (by decide +kernel)) rfl
theorem mw_561 : Cond.selects RX4 yX4_passSign yX4_passSign ∈ GW := wt_3 (List.mem_of_getElem? (i := 208) (by decide +kernel)) rfl
theorem mw_562 : Cond.code yX4_passSign cX4_passSign 2 (some FieldType.boolean) ∈ GW := wt_3 (List.mem_of_getElem? (i := 209) (by decide +kernel)) rfl
theorem mw_563 : Cond.methodLink RX7 42 yX4_passEnd ∈ GW := wt_3 (List.mem_of_getElem? (i := 210) (by decide +kernel)) rfl
theorem mw_564 : Cond.instanceMethod yX4_passEnd ∈ GW := wt_3 (List.mem_of_getElem? (i := 211) (by decide +kernel)) rfl
theorem mw_565 : Cond.selects RX4 yX4_passEnd yX4_passEnd ∈ GW := wt_3 (List.mem_of_getElem? (i := 212) (by decide +kernel)) rfl
theorem mw_566 : Cond.code yX4_passEnd cX4_passEnd 1 (some FieldType.boolean) ∈ GW := wt_3 (List.mem_of_getElem? (i := 213) (by decide +kernel)) rfl
theorem mw_567 : Cond.methodLink RX7 45 yX6_conclude ∈ GW := wt_3 (List.mem_of_getElem? (i := 214) (by decide +kernel)) rfl
theorem mw_568 : Cond.instanceMethod yX6_conclude ∈ GW := wt_3 (List.mem_of_getElem? (i := 215) (by decide +kernel)) rfl
theorem mw_569 : Cond.selects RX6 yX6_conclude yX6_conclude ∈ GW := wt_3 (List.mem_of_getElem? (i := 216) (by decide +kernel)) rfl
theorem mw_570 : Cond.code yX6_conclude cX6_conclude 3 none ∈ GW := wt_3 (List.mem_of_getElem? (i := 217) (by decide +kernel)) rfl
theorem mw_571 : Cond.methodLink RX6 75 yX6_shortest ∈ GW := wt_3 (List.mem_of_getElem? (i := 218) (by decide +kernel)) rfl
theorem mw_572 : Cond.instanceMethod yX6_shortest ∈ GW := wt_3 (List.mem_of_getElem? (i := 220) (by decide +kernel)) rfl
theorem mw_573 : Cond.code yX6_shortest cX6_shortest 8 none ∈ GW := wt_3 (List.mem_of_getElem? (i := 221) (by decide +kernel)) rfl
theorem mw_574 : Cond.constant RX6 79 (1000000) ∈ GW := wt_3 (List.mem_of_getElem? (i := 222) (by decide +kernel)) rfl
theorem mw_575 : Cond.methodLink RX6 80 yJ9_min_7cf53 ∈ GW := wt_3 (List.mem_of_getElem? (i := 223) (by decide +kernel)) rfl
theorem mw_576 : Cond.methodLink RX11 139 yX6_copyFrom ∈ GW := wt_3 (List.mem_of_getElem? (i := 224) (by decide +kernel)) rfl
theorem mw_577 : Cond.instanceMethod yX6_copyFrom ∈ GW := wt_3 (List.mem_of_getElem? (i := 225) (by decide +kernel)) rfl
theorem mw_578 : Cond.selects RX6 yX6_copyFrom yX6_copyFrom ∈ GW := wt_3 (List.mem_of_getElem? (i := 226) (by decide +kernel)) rfl
theorem mw_579 : Cond.code yX6_copyFrom cX6_copyFrom 2 none ∈ GW := wt_3 (List.mem_of_getElem? (i := 227) (by decide +kernel)) rfl
theorem mw_580 : Cond.methodLink RX6 65 yX3_copyFrom ∈ GW := wt_3 (List.mem_of_getElem? (i := 228) (by decide +kernel)) rfl
theorem mw_581 : Cond.instanceMethod yX3_copyFrom ∈ GW := wt_3 (List.mem_of_getElem? (i := 229) (by decide +kernel)) rfl
theorem mw_582 : Cond.selects RX3 yX3_copyFrom yX3_copyFrom ∈ GW := wt_3 (List.mem_of_getElem? (i := 230) (by decide +kernel)) rfl
theorem mw_583 : Cond.code yX3_copyFrom cX3_copyFrom 2 none ∈ GW := wt_3 (List.mem_of_getElem? (i := 231) (by decide +kernel)) rfl
theorem mw_584 : Cond.methodLink RX3 26 ⟨"java/lang/System", "arraycopy", "(Ljava/lang/Object;ILjava/lang/Object;II)V"⟩ ∈ GW := wt_3 (List.mem_of_getElem? (i := 232) (by decide +kernel)) rfl
theorem mw_585 : Cond.methodLink RX6 69 ⟨"java/lang/System", "arraycopy", "(Ljava/lang/Object;ILjava/lang/Object;II)V"⟩ ∈ GW := wt_3 (List.mem_of_getElem? (i := 233) (by decide +kernel)) rfl
theorem mw_586 : Cond.methodLink RX11 142 yX8_clear ∈ GW := wt_3 (List.mem_of_getElem? (i := 234) (by decide +kernel)) rfl
theorem mw_587 : Cond.instanceMethod yX8_clear ∈ GW := wt_3 (List.mem_of_getElem? (i := 235) (by decide +kernel)) rfl
theorem mw_588 : Cond.selects RX8 yX8_clear yX8_clear ∈ GW := wt_3 (List.mem_of_getElem? (i := 236) (by decide +kernel)) rfl
theorem mw_589 : Cond.code yX8_clear cX8_clear 1 none ∈ GW := wt_3 (List.mem_of_getElem? (i := 237) (by decide +kernel)) rfl
theorem mw_590 : Cond.methodLink RL 41 yX11_fault ∈ GW := wt_3 (List.mem_of_getElem? (i := 238) (by decide +kernel)) rfl
theorem mw_591 : Cond.instanceMethod yX11_fault ∈ GW := wt_3 (List.mem_of_getElem? (i := 239) (by decide +kernel)) rfl
theorem mw_592 : Cond.selects RX11 yX11_fault yX11_fault ∈ GW := wt_4 (List.mem_of_getElem? (i := 0) (by decide +kernel)) rfl
theorem mw_593 : Cond.code yX11_fault cX11_fault 1 (some FieldType.int) ∈ GW := wt_4 (List.mem_of_getElem? (i := 1) (by decide +kernel)) rfl
theorem mw_594 : Cond.methodLink RL 186 yX11_sentence ∈ GW := wt_4 (List.mem_of_getElem? (i := 2) (by decide +kernel)) rfl
theorem mw_595 : Cond.instanceMethod yX11_sentence ∈ GW := wt_4 (List.mem_of_getElem? (i := 3) (by decide +kernel)) rfl
theorem mw_596 : Cond.selects RX11 yX11_sentence yX11_sentence ∈ GW := wt_4 (List.mem_of_getElem? (i := 4) (by decide +kernel)) rfl
theorem mw_597 : Cond.code yX11_sentence cX11_sentence 2 (some FieldType.int) ∈ GW := wt_4 (List.mem_of_getElem? (i := 5) (by decide +kernel)) rfl
theorem mw_598 : Cond.methodLink RX11 148 yX9_read ∈ GW := wt_4 (List.mem_of_getElem? (i := 6) (by decide +kernel)) rfl
theorem mw_599 : Cond.instanceMethod yX9_read ∈ GW := wt_4 (List.mem_of_getElem? (i := 7) (by decide +kernel)) rfl
theorem mw_600 : Cond.selects RX9 yX9_read yX9_read ∈ GW := wt_4 (List.mem_of_getElem? (i := 8) (by decide +kernel)) rfl
theorem mw_601 : Cond.code yX9_read cX9_read 2 (some FieldType.int) ∈ GW := wt_4 (List.mem_of_getElem? (i := 9) (by decide +kernel)) rfl
theorem mw_602 : Cond.methodLink RX9 23 yX4_open ∈ GW := wt_4 (List.mem_of_getElem? (i := 10) (by decide +kernel)) rfl
theorem mw_603 : Cond.methodLink RX9 29 yX8_clear ∈ GW := wt_4 (List.mem_of_getElem? (i := 11) (by decide +kernel)) rfl
theorem mw_604 : Cond.methodLink RX9 38 yX9_readCond ∈ GW := wt_4 (List.mem_of_getElem? (i := 12) (by decide +kernel)) rfl
theorem mw_605 : Cond.instanceMethod yX9_readCond ∈ GW := wt_4 (List.mem_of_getElem? (i := 14) (by decide +kernel)) rfl
theorem mw_606 : Cond.code yX9_readCond cX9_readCond 3 (some FieldType.boolean) ∈ GW := wt_4 (List.mem_of_getElem? (i := 15) (by decide +kernel)) rfl
theorem mw_607 : Cond.methodLink RX9 46 yX9_readAll ∈ GW := wt_4 (List.mem_of_getElem? (i := 16) (by decide +kernel)) rfl
theorem mw_608 : Cond.instanceMethod yX9_readAll ∈ GW := wt_4 (List.mem_of_getElem? (i := 18) (by decide +kernel)) rfl
theorem mw_609 : Cond.code yX9_readAll cX9_readAll 3 (some FieldType.boolean) ∈ GW := wt_4 (List.mem_of_getElem? (i := 19) (by decide +kernel)) rfl
theorem mw_610 : Cond.methodLink RX9 59 yX9_readOne ∈ GW := wt_4 (List.mem_of_getElem? (i := 20) (by decide +kernel)) rfl
theorem mw_611 : Cond.instanceMethod yX9_readOne ∈ GW := wt_4 (List.mem_of_getElem? (i := 22) (by decide +kernel)) rfl
theorem mw_612 : Cond.code yX9_readOne cX9_readOne 4 (some FieldType.boolean) ∈ GW := wt_4 (List.mem_of_getElem? (i := 23) (by decide +kernel)) rfl
theorem mw_613 : Cond.methodLink RX9 65 yX4_refuse ∈ GW := wt_4 (List.mem_of_getElem? (i := 24) (by decide +kernel)) rfl
theorem mw_614 : Cond.methodLink RX9 52 yX4_step ∈ GW := wt_4 (List.mem_of_getElem? (i := 25) (by decide +kernel)) rfl
theorem mw_615 : Cond.methodLink RX9 68 yX4_passSign ∈ GW := wt_4 (List.mem_of_getElem? (i := 26) (by decide +kernel)) rfl
theorem mw_616 : Cond.methodLink RX9 72 yX9_readPlain ∈ GW := wt_4 (List.mem_of_getElem? (i := 27) (by decide +kernel)) rfl
theorem mw_617 : Cond.instanceMethod yX9_readPlain ∈ GW := wt_4 (List.mem_of_getElem? (i := 29) (by decide +kernel)) rfl
theorem mw_618 : Cond.code yX9_readPlain cX9_readPlain 4 (some FieldType.boolean) ∈ GW := wt_4 (List.mem_of_getElem? (i := 30) (by decide +kernel)) rfl
theorem mw_619 : Cond.methodLink RX9 75 yX4_look ∈ GW := wt_4 (List.mem_of_getElem? (i := 31) (by decide +kernel)) rfl
theorem mw_620 : Cond.methodLink RX9 79 yX4_lookNumber ∈ GW := wt_4 (List.mem_of_getElem? (i := 32) (by decide +kernel)) rfl
theorem mw_621 : Cond.methodLink RX9 55 yX8_add ∈ GW := wt_4 (List.mem_of_getElem? (i := 33) (by decide +kernel)) rfl
theorem mw_622 : Cond.instanceMethod yX8_add ∈ GW := wt_4 (List.mem_of_getElem? (i := 34) (by decide +kernel)) rfl
theorem mw_623 : Cond.selects RX8 yX8_add yX8_add ∈ GW := wt_4 (List.mem_of_getElem? (i := 35) (by decide +kernel)) rfl
theorem mw_624 : Cond.code yX8_add cX8_add 4 none ∈ GW := wt_4 (List.mem_of_getElem? (i := 36) (by decide +kernel)) rfl
theorem mw_625 : Cond.methodLink RX9 42 yX4_passEnd ∈ GW := wt_4 (List.mem_of_getElem? (i := 37) (by decide +kernel)) rfl
theorem mw_626 : Cond.methodLink RX11 149 yX8_copyFrom ∈ GW := wt_4 (List.mem_of_getElem? (i := 38) (by decide +kernel)) rfl
theorem mw_627 : Cond.instanceMethod yX8_copyFrom ∈ GW := wt_4 (List.mem_of_getElem? (i := 39) (by decide +kernel)) rfl
theorem mw_628 : Cond.selects RX8 yX8_copyFrom yX8_copyFrom ∈ GW := wt_4 (List.mem_of_getElem? (i := 40) (by decide +kernel)) rfl
theorem mw_629 : Cond.code yX8_copyFrom cX8_copyFrom 2 none ∈ GW := wt_4 (List.mem_of_getElem? (i := 41) (by decide +kernel)) rfl
theorem mw_630 : Cond.methodLink RX8 28 ⟨"java/lang/System", "arraycopy", "(Ljava/lang/Object;ILjava/lang/Object;II)V"⟩ ∈ GW := wt_4 (List.mem_of_getElem? (i := 42) (by decide +kernel)) rfl
theorem mw_631 : Cond.methodLink RL 190 yX11_said ∈ GW := wt_4 (List.mem_of_getElem? (i := 43) (by decide +kernel)) rfl
theorem mw_632 : Cond.instanceMethod yX11_said ∈ GW := wt_4 (List.mem_of_getElem? (i := 44) (by decide +kernel)) rfl
theorem mw_633 : Cond.selects RX11 yX11_said yX11_said ∈ GW := wt_4 (List.mem_of_getElem? (i := 45) (by decide +kernel)) rfl
theorem mw_634 : Cond.code yX11_said cX11_said 3 (some FieldType.int) ∈ GW := wt_4 (List.mem_of_getElem? (i := 46) (by decide +kernel)) rfl
theorem mw_635 : Cond.methodLink RX11 152 yX8_isThere ∈ GW := wt_4 (List.mem_of_getElem? (i := 47) (by decide +kernel)) rfl
theorem mw_636 : Cond.instanceMethod yX8_isThere ∈ GW := wt_4 (List.mem_of_getElem? (i := 48) (by decide +kernel)) rfl
theorem mw_637 : Cond.selects RX8 yX8_isThere yX8_isThere ∈ GW := wt_4 (List.mem_of_getElem? (i := 49) (by decide +kernel)) rfl
theorem mw_638 : Cond.code yX8_isThere cX8_isThere 1 (some FieldType.boolean) ∈ GW := wt_4 (List.mem_of_getElem? (i := 50) (by decide +kernel)) rfl
theorem mw_639 : Cond.methodLink RX11 156 yX8_portsFor ∈ GW := wt_4 (List.mem_of_getElem? (i := 51) (by decide +kernel)) rfl
theorem mw_640 : Cond.instanceMethod yX8_portsFor ∈ GW := wt_4 (List.mem_of_getElem? (i := 52) (by decide +kernel)) rfl
theorem mw_641 : Cond.selects RX8 yX8_portsFor yX8_portsFor ∈ GW := wt_4 (List.mem_of_getElem? (i := 53) (by decide +kernel)) rfl
theorem mw_642 : Cond.code yX8_portsFor cX8_portsFor 5 (some FieldType.int) ∈ GW := wt_4 (List.mem_of_getElem? (i := 54) (by decide +kernel)) rfl
theorem mw_643 : Cond.methodLink RX8 45 yX8_portsOfStep ∈ GW := wt_4 (List.mem_of_getElem? (i := 55) (by decide +kernel)) rfl
theorem mw_644 : Cond.instanceMethod yX8_portsOfStep ∈ GW := wt_4 (List.mem_of_getElem? (i := 57) (by decide +kernel)) rfl
theorem mw_645 : Cond.code yX8_portsOfStep cX8_portsOfStep 5 (some FieldType.int) ∈ GW := wt_4 (List.mem_of_getElem? (i := 58) (by decide +kernel)) rfl
theorem mw_646 : Cond.methodLink RX8 49 yX8_holds ∈ GW := wt_4 (List.mem_of_getElem? (i := 59) (by decide +kernel)) rfl
theorem mw_647 : Cond.instanceMethod yX8_holds ∈ GW := wt_4 (List.mem_of_getElem? (i := 61) (by decide +kernel)) rfl
theorem mw_648 : Cond.code yX8_holds cX8_holds 4 (some FieldType.boolean) ∈ GW := wt_4 (List.mem_of_getElem? (i := 62) (by decide +kernel)) rfl
theorem mw_649 : Cond.methodLink RX8 56 yX10_hasBeenAt ∈ GW := wt_4 (List.mem_of_getElem? (i := 63) (by decide +kernel)) rfl
theorem mw_650 : Cond.instanceMethod yX10_hasBeenAt ∈ GW := wt_4 (List.mem_of_getElem? (i := 64) (by decide +kernel)) rfl
theorem mw_651 : Cond.selects RX10 yX10_hasBeenAt yX10_hasBeenAt ∈ GW := wt_4 (List.mem_of_getElem? (i := 65) (by decide +kernel)) rfl
theorem mw_652 : Cond.code yX10_hasBeenAt cX10_hasBeenAt 2 (some FieldType.boolean) ∈ GW := wt_4 (List.mem_of_getElem? (i := 66) (by decide +kernel)) rfl
theorem mw_653 : Cond.methodLink RX8 60 yX10_isSafeTo ∈ GW := wt_4 (List.mem_of_getElem? (i := 67) (by decide +kernel)) rfl
theorem mw_654 : Cond.instanceMethod yX10_isSafeTo ∈ GW := wt_4 (List.mem_of_getElem? (i := 68) (by decide +kernel)) rfl
theorem mw_655 : Cond.selects RX10 yX10_isSafeTo yX10_isSafeTo ∈ GW := wt_4 (List.mem_of_getElem? (i := 69) (by decide +kernel)) rfl
theorem mw_656 : Cond.code yX10_isSafeTo cX10_isSafeTo 2 (some FieldType.boolean) ∈ GW := wt_4 (List.mem_of_getElem? (i := 70) (by decide +kernel)) rfl
theorem mw_657 : Cond.methodLink RX10 167 yX10_canSailTo ∈ GW := wt_4 (List.mem_of_getElem? (i := 71) (by decide +kernel)) rfl
theorem mw_658 : Cond.instanceMethod yX10_canSailTo ∈ GW := wt_4 (List.mem_of_getElem? (i := 72) (by decide +kernel)) rfl
theorem mw_659 : Cond.selects RX10 yX10_canSailTo yX10_canSailTo ∈ GW := wt_4 (List.mem_of_getElem? (i := 73) (by decide +kernel)) rfl
theorem mw_660 : Cond.code yX10_canSailTo cX10_canSailTo 2 (some FieldType.boolean) ∈ GW := wt_4 (List.mem_of_getElem? (i := 74) (by decide +kernel)) rfl
theorem mw_661 : Cond.methodLink RX10 93 yX10_canAct ∈ GW := wt_4 (List.mem_of_getElem? (i := 75) (by decide +kernel)) rfl
theorem mw_662 : Cond.instanceMethod yX10_canAct ∈ GW := wt_4 (List.mem_of_getElem? (i := 76) (by decide +kernel)) rfl
theorem mw_663 : Cond.selects RX10 yX10_canAct yX10_canAct ∈ GW := wt_4 (List.mem_of_getElem? (i := 77) (by decide +kernel)) rfl
theorem mw_664 : Cond.code yX10_canAct cX10_canAct 1 (some FieldType.boolean) ∈ GW := wt_4 (List.mem_of_getElem? (i := 78) (by decide +kernel)) rfl
theorem mw_665 : Cond.methodLink RX10 170 yX10_safeNamesTo ∈ GW := wt_4 (List.mem_of_getElem? (i := 79) (by decide +kernel)) rfl
theorem mw_666 : Cond.instanceMethod yX10_safeNamesTo ∈ GW := wt_4 (List.mem_of_getElem? (i := 80) (by decide +kernel)) rfl
theorem mw_667 : Cond.selects RX10 yX10_safeNamesTo yX10_safeNamesTo ∈ GW := wt_4 (List.mem_of_getElem? (i := 81) (by decide +kernel)) rfl
theorem mw_668 : Cond.code yX10_safeNamesTo cX10_safeNamesTo 5 (some FieldType.int) ∈ GW := wt_4 (List.mem_of_getElem? (i := 82) (by decide +kernel)) rfl
theorem mw_669 : Cond.methodLink RX8 63 yX10_knowsNow ∈ GW := wt_4 (List.mem_of_getElem? (i := 83) (by decide +kernel)) rfl
theorem mw_670 : Cond.instanceMethod yX10_knowsNow ∈ GW := wt_4 (List.mem_of_getElem? (i := 84) (by decide +kernel)) rfl
theorem mw_671 : Cond.selects RX10 yX10_knowsNow yX10_knowsNow ∈ GW := wt_4 (List.mem_of_getElem? (i := 85) (by decide +kernel)) rfl
theorem mw_672 : Cond.code yX10_knowsNow cX10_knowsNow 3 (some FieldType.boolean) ∈ GW := wt_4 (List.mem_of_getElem? (i := 86) (by decide +kernel)) rfl
theorem mw_673 : Cond.methodLink RX8 67 yX6_hearsFrom ∈ GW := wt_4 (List.mem_of_getElem? (i := 87) (by decide +kernel)) rfl
theorem mw_674 : Cond.instanceMethod yX6_hearsFrom ∈ GW := wt_4 (List.mem_of_getElem? (i := 88) (by decide +kernel)) rfl
theorem mw_675 : Cond.selects RX6 yX6_hearsFrom yX6_hearsFrom ∈ GW := wt_4 (List.mem_of_getElem? (i := 89) (by decide +kernel)) rfl
theorem mw_676 : Cond.code yX6_hearsFrom cX6_hearsFrom 3 (some FieldType.boolean) ∈ GW := wt_4 (List.mem_of_getElem? (i := 90) (by decide +kernel)) rfl
theorem mw_677 : Cond.methodLink RX6 90 yX6_hasPorts ∈ GW := wt_4 (List.mem_of_getElem? (i := 91) (by decide +kernel)) rfl
theorem mw_678 : Cond.instanceMethod yX6_hasPorts ∈ GW := wt_4 (List.mem_of_getElem? (i := 92) (by decide +kernel)) rfl
theorem mw_679 : Cond.selects RX6 yX6_hasPorts yX6_hasPorts ∈ GW := wt_4 (List.mem_of_getElem? (i := 93) (by decide +kernel)) rfl
theorem mw_680 : Cond.code yX6_hasPorts cX6_hasPorts 3 (some FieldType.boolean) ∈ GW := wt_4 (List.mem_of_getElem? (i := 94) (by decide +kernel)) rfl
theorem mw_681 : Cond.methodLink RX6 86 yX6_has ∈ GW := wt_4 (List.mem_of_getElem? (i := 95) (by decide +kernel)) rfl
theorem mw_682 : Cond.instanceMethod yX6_has ∈ GW := wt_4 (List.mem_of_getElem? (i := 96) (by decide +kernel)) rfl
theorem mw_683 : Cond.selects RX6 yX6_has yX6_has ∈ GW := wt_4 (List.mem_of_getElem? (i := 97) (by decide +kernel)) rfl
theorem mw_684 : Cond.code yX6_has cX6_has 3 (some FieldType.boolean) ∈ GW := wt_4 (List.mem_of_getElem? (i := 98) (by decide +kernel)) rfl
theorem mw_685 : Cond.methodLink RX8 70 yX10_farTo ∈ GW := wt_4 (List.mem_of_getElem? (i := 99) (by decide +kernel)) rfl
theorem mw_686 : Cond.instanceMethod yX10_farTo ∈ GW := wt_4 (List.mem_of_getElem? (i := 100) (by decide +kernel)) rfl
theorem mw_687 : Cond.selects RX10 yX10_farTo yX10_farTo ∈ GW := wt_4 (List.mem_of_getElem? (i := 101) (by decide +kernel)) rfl
theorem mw_688 : Cond.code yX10_farTo cX10_farTo 2 (some FieldType.int) ∈ GW := wt_4 (List.mem_of_getElem? (i := 102) (by decide +kernel)) rfl
theorem mw_689 : Cond.methodLink RX8 74 yX8_compares ∈ GW := wt_4 (List.mem_of_getElem? (i := 103) (by decide +kernel)) rfl
theorem mw_690 : Cond.instanceMethod yX8_compares ∈ GW := wt_4 (List.mem_of_getElem? (i := 105) (by decide +kernel)) rfl
theorem mw_691 : Cond.code yX8_compares cX8_compares 3 (some FieldType.boolean) ∈ GW := wt_4 (List.mem_of_getElem? (i := 106) (by decide +kernel)) rfl
theorem mw_692 : Cond.methodLink RX8 77 yX10_namesKnownAt ∈ GW := wt_4 (List.mem_of_getElem? (i := 107) (by decide +kernel)) rfl
theorem mw_693 : Cond.instanceMethod yX10_namesKnownAt ∈ GW := wt_4 (List.mem_of_getElem? (i := 108) (by decide +kernel)) rfl
theorem mw_694 : Cond.selects RX10 yX10_namesKnownAt yX10_namesKnownAt ∈ GW := wt_4 (List.mem_of_getElem? (i := 109) (by decide +kernel)) rfl
theorem mw_695 : Cond.code yX10_namesKnownAt cX10_namesKnownAt 4 (some FieldType.int) ∈ GW := wt_4 (List.mem_of_getElem? (i := 110) (by decide +kernel)) rfl
theorem mw_696 : Cond.methodLink RX10 164 yX10_knowsNow ∈ GW := wt_4 (List.mem_of_getElem? (i := 111) (by decide +kernel)) rfl
theorem mw_697 : Cond.methodLink RX8 80 yJ6_bitCount_0f7a4 ∈ GW := wt_4 (List.mem_of_getElem? (i := 112) (by decide +kernel)) rfl
theorem mw_698 : Cond.static yJ6_bitCount_0f7a4 ∈ GW := wt_4 (List.mem_of_getElem? (i := 113) (by decide +kernel)) rfl
theorem mw_699 : Cond.code yJ6_bitCount_0f7a4 cJ6_bitCount_0f7a4 1 (some FieldType.int) ∈ GW := wt_4 (List.mem_of_getElem? (i := 114) (by decide +kernel)) rfl
theorem mw_700 : Cond.constant RJ6 265 (1431655765) ∈ GW := wt_4 (List.mem_of_getElem? (i := 115) (by decide +kernel)) rfl
theorem mw_701 : Cond.constant RJ6 266 (858993459) ∈ GW := wt_4 (List.mem_of_getElem? (i := 116) (by decide +kernel)) rfl
theorem mw_702 : Cond.constant RJ6 267 (252645135) ∈ GW := wt_4 (List.mem_of_getElem? (i := 117) (by decide +kernel)) rfl
theorem mw_703 : Cond.methodLink RX11 160 yJ6_bitCount_0f7a4 ∈ GW := wt_4 (List.mem_of_getElem? (i := 118) (by decide +kernel)) rfl
theorem mw_704 : Cond.methodLink RX11 165 yX11_bitAt ∈ GW := wt_4 (List.mem_of_getElem? (i := 119) (by decide +kernel)) rfl
theorem mw_705 : Cond.static yX11_bitAt ∈ GW := wt_4 (List.mem_of_getElem? (i := 120) (by decide +kernel)) rfl
theorem mw_706 : Cond.code yX11_bitAt cX11_bitAt 4 (some FieldType.int) ∈ GW := wt_4 (List.mem_of_getElem? (i := 121) (by decide +kernel)) rfl
theorem mw_707 : Cond.methodLink RL 178 yX11_log ∈ GW := wt_4 (List.mem_of_getElem? (i := 122) (by decide +kernel)) rfl
theorem mw_708 : Cond.instanceMethod yX11_log ∈ GW := wt_4 (List.mem_of_getElem? (i := 123) (by decide +kernel)) rfl
theorem mw_709 : Cond.selects RX11 yX11_log yX11_log ∈ GW := wt_4 (List.mem_of_getElem? (i := 124) (by decide +kernel)) rfl
theorem mw_710 : Cond.code yX11_log cX11_log 4 (some FieldType.int) ∈ GW := wt_4 (List.mem_of_getElem? (i := 125) (by decide +kernel)) rfl
theorem mw_711 : Cond.methodLink RX11 169 yX2_read ∈ GW := wt_4 (List.mem_of_getElem? (i := 126) (by decide +kernel)) rfl
theorem mw_712 : Cond.instanceMethod yX2_read ∈ GW := wt_4 (List.mem_of_getElem? (i := 127) (by decide +kernel)) rfl
theorem mw_713 : Cond.selects RX2 yX2_read yX2_read ∈ GW := wt_4 (List.mem_of_getElem? (i := 128) (by decide +kernel)) rfl
theorem mw_714 : Cond.code yX2_read cX2_read 3 (some FieldType.boolean) ∈ GW := wt_4 (List.mem_of_getElem? (i := 129) (by decide +kernel)) rfl
theorem mw_715 : Cond.methodLink RX2 29 yX4_open ∈ GW := wt_4 (List.mem_of_getElem? (i := 130) (by decide +kernel)) rfl
theorem mw_716 : Cond.methodLink RX2 42 yX2_readLine ∈ GW := wt_4 (List.mem_of_getElem? (i := 131) (by decide +kernel)) rfl
theorem mw_717 : Cond.instanceMethod yX2_readLine ∈ GW := wt_4 (List.mem_of_getElem? (i := 133) (by decide +kernel)) rfl
theorem mw_718 : Cond.code yX2_readLine cX2_readLine 3 (some FieldType.boolean) ∈ GW := wt_4 (List.mem_of_getElem? (i := 134) (by decide +kernel)) rfl
theorem mw_719 : Cond.methodLink RX2 52 yX4_isName ∈ GW := wt_4 (List.mem_of_getElem? (i := 135) (by decide +kernel)) rfl
theorem mw_720 : Cond.methodLink RX2 55 yX4_look ∈ GW := wt_4 (List.mem_of_getElem? (i := 136) (by decide +kernel)) rfl
theorem mw_721 : Cond.methodLink RX2 59 yX4_refuse ∈ GW := wt_4 (List.mem_of_getElem? (i := 137) (by decide +kernel)) rfl
theorem mw_722 : Cond.methodLink RX2 63 yX4_step ∈ GW := wt_4 (List.mem_of_getElem? (i := 138) (by decide +kernel)) rfl
theorem mw_723 : Cond.methodLink RX2 66 yX2_passLearns ∈ GW := wt_4 (List.mem_of_getElem? (i := 139) (by decide +kernel)) rfl
theorem mw_724 : Cond.instanceMethod yX2_passLearns ∈ GW := wt_4 (List.mem_of_getElem? (i := 141) (by decide +kernel)) rfl
theorem mw_725 : Cond.code yX2_passLearns cX2_passLearns 1 (some FieldType.boolean) ∈ GW := wt_4 (List.mem_of_getElem? (i := 142) (by decide +kernel)) rfl
theorem mw_726 : Cond.methodLink RX2 69 yX2_lookObject ∈ GW := wt_4 (List.mem_of_getElem? (i := 143) (by decide +kernel)) rfl
theorem mw_727 : Cond.instanceMethod yX2_lookObject ∈ GW := wt_4 (List.mem_of_getElem? (i := 145) (by decide +kernel)) rfl
theorem mw_728 : Cond.code yX2_lookObject cX2_lookObject 2 (some FieldType.int) ∈ GW := wt_4 (List.mem_of_getElem? (i := 146) (by decide +kernel)) rfl
theorem mw_729 : Cond.methodLink RX2 77 yX4_lookNumber ∈ GW := wt_4 (List.mem_of_getElem? (i := 147) (by decide +kernel)) rfl
theorem mw_730 : Cond.methodLink RX2 73 yX4_passSign ∈ GW := wt_4 (List.mem_of_getElem? (i := 148) (by decide +kernel)) rfl
theorem mw_731 : Cond.methodLink RX2 46 yX4_passEnd ∈ GW := wt_4 (List.mem_of_getElem? (i := 149) (by decide +kernel)) rfl
theorem mw_732 : Cond.methodLink RX11 172 yX10_copyFrom ∈ GW := wt_4 (List.mem_of_getElem? (i := 150) (by decide +kernel)) rfl
theorem mw_733 : Cond.instanceMethod yX10_copyFrom ∈ GW := wt_4 (List.mem_of_getElem? (i := 151) (by decide +kernel)) rfl
theorem mw_734 : Cond.selects RX10 yX10_copyFrom yX10_copyFrom ∈ GW := wt_4 (List.mem_of_getElem? (i := 152) (by decide +kernel)) rfl
theorem mw_735 : Cond.code yX10_copyFrom cX10_copyFrom 2 none ∈ GW := wt_4 (List.mem_of_getElem? (i := 153) (by decide +kernel)) rfl
theorem mw_736 : Cond.methodLink RX11 175 yX2_live ∈ GW := wt_4 (List.mem_of_getElem? (i := 154) (by decide +kernel)) rfl
theorem mw_737 : Cond.instanceMethod yX2_live ∈ GW := wt_4 (List.mem_of_getElem? (i := 155) (by decide +kernel)) rfl
theorem mw_738 : Cond.selects RX2 yX2_live yX2_live ∈ GW := wt_4 (List.mem_of_getElem? (i := 156) (by decide +kernel)) rfl
theorem mw_739 : Cond.code yX2_live cX2_live 2 (some FieldType.int) ∈ GW := wt_4 (List.mem_of_getElem? (i := 157) (by decide +kernel)) rfl
theorem mw_740 : Cond.methodLink RX2 91 yX2_liveLine ∈ GW := wt_4 (List.mem_of_getElem? (i := 158) (by decide +kernel)) rfl
theorem mw_741 : Cond.instanceMethod yX2_liveLine ∈ GW := wt_4 (List.mem_of_getElem? (i := 160) (by decide +kernel)) rfl
theorem mw_742 : Cond.code yX2_liveLine cX2_liveLine 3 (some FieldType.int) ∈ GW := wt_4 (List.mem_of_getElem? (i := 161) (by decide +kernel)) rfl
theorem mw_743 : Cond.methodLink RX2 105 yX10_paintAs ∈ GW := wt_4 (List.mem_of_getElem? (i := 162) (by decide +kernel)) rfl
theorem mw_744 : Cond.instanceMethod yX10_paintAs ∈ GW := wt_4 (List.mem_of_getElem? (i := 163) (by decide +kernel)) rfl
theorem mw_745 : Cond.selects RX10 yX10_paintAs yX10_paintAs ∈ GW := wt_4 (List.mem_of_getElem? (i := 164) (by decide +kernel)) rfl
theorem mw_746 : Cond.code yX10_paintAs cX10_paintAs 2 (some FieldType.int) ∈ GW := wt_4 (List.mem_of_getElem? (i := 165) (by decide +kernel)) rfl
theorem mw_747 : Cond.methodLink RX10 99 yX10_allMen ∈ GW := wt_4 (List.mem_of_getElem? (i := 166) (by decide +kernel)) rfl
theorem mw_748 : Cond.instanceMethod yX10_allMen ∈ GW := wt_4 (List.mem_of_getElem? (i := 167) (by decide +kernel)) rfl
theorem mw_749 : Cond.selects RX10 yX10_allMen yX10_allMen ∈ GW := wt_4 (List.mem_of_getElem? (i := 168) (by decide +kernel)) rfl
theorem mw_750 : Cond.code yX10_allMen cX10_allMen 1 (some FieldType.int) ∈ GW := wt_4 (List.mem_of_getElem? (i := 169) (by decide +kernel)) rfl
theorem mw_751 : Cond.methodLink RX10 103 yX10_lacking ∈ GW := wt_4 (List.mem_of_getElem? (i := 170) (by decide +kernel)) rfl
theorem mw_752 : Cond.instanceMethod yX10_lacking ∈ GW := wt_4 (List.mem_of_getElem? (i := 171) (by decide +kernel)) rfl
theorem mw_753 : Cond.selects RX10 yX10_lacking yX10_lacking ∈ GW := wt_4 (List.mem_of_getElem? (i := 172) (by decide +kernel)) rfl
theorem mw_754 : Cond.code yX10_lacking cX10_lacking 5 (some FieldType.int) ∈ GW := wt_4 (List.mem_of_getElem? (i := 173) (by decide +kernel)) rfl
theorem mw_755 : Cond.methodLink RX10 149 yJ6_bitCount_0f7a4 ∈ GW := wt_4 (List.mem_of_getElem? (i := 174) (by decide +kernel)) rfl
theorem mw_756 : Cond.methodLink RX10 154 yX10_knowers ∈ GW := wt_4 (List.mem_of_getElem? (i := 175) (by decide +kernel)) rfl
theorem mw_757 : Cond.instanceMethod yX10_knowers ∈ GW := wt_4 (List.mem_of_getElem? (i := 177) (by decide +kernel)) rfl
theorem mw_758 : Cond.code yX10_knowers cX10_knowers 5 (some FieldType.int) ∈ GW := wt_4 (List.mem_of_getElem? (i := 178) (by decide +kernel)) rfl
theorem mw_759 : Cond.methodLink RX10 157 yJ9_max_7cf53 ∈ GW := wt_4 (List.mem_of_getElem? (i := 179) (by decide +kernel)) rfl
theorem mw_760 : Cond.methodLink RX10 106 yX10_isLate ∈ GW := wt_4 (List.mem_of_getElem? (i := 180) (by decide +kernel)) rfl
theorem mw_761 : Cond.instanceMethod yX10_isLate ∈ GW := wt_4 (List.mem_of_getElem? (i := 182) (by decide +kernel)) rfl
theorem mw_762 : Cond.code yX10_isLate cX10_isLate 2 (some FieldType.boolean) ∈ GW := wt_4 (List.mem_of_getElem? (i := 183) (by decide +kernel)) rfl
theorem mw_763 : Cond.methodLink RX2 108 yX10_sailTo ∈ GW := wt_4 (List.mem_of_getElem? (i := 184) (by decide +kernel)) rfl
theorem mw_764 : Cond.instanceMethod yX10_sailTo ∈ GW := wt_4 (List.mem_of_getElem? (i := 185) (by decide +kernel)) rfl
theorem mw_765 : Cond.selects RX10 yX10_sailTo yX10_sailTo ∈ GW := wt_4 (List.mem_of_getElem? (i := 186) (by decide +kernel)) rfl
theorem mw_766 : Cond.code yX10_sailTo cX10_sailTo 3 (some FieldType.int) ∈ GW := wt_4 (List.mem_of_getElem? (i := 187) (by decide +kernel)) rfl
theorem mw_767 : Cond.methodLink RX10 113 yX10_beSeen ∈ GW := wt_4 (List.mem_of_getElem? (i := 188) (by decide +kernel)) rfl
theorem mw_768 : Cond.instanceMethod yX10_beSeen ∈ GW := wt_4 (List.mem_of_getElem? (i := 190) (by decide +kernel)) rfl
theorem mw_769 : Cond.code yX10_beSeen cX10_beSeen 1 none ∈ GW := wt_4 (List.mem_of_getElem? (i := 191) (by decide +kernel)) rfl
theorem mw_770 : Cond.methodLink RX10 116 yX6_wantedForAt ∈ GW := wt_4 (List.mem_of_getElem? (i := 192) (by decide +kernel)) rfl
theorem mw_771 : Cond.instanceMethod yX6_wantedForAt ∈ GW := wt_4 (List.mem_of_getElem? (i := 193) (by decide +kernel)) rfl
theorem mw_772 : Cond.selects RX6 yX6_wantedForAt yX6_wantedForAt ∈ GW := wt_4 (List.mem_of_getElem? (i := 194) (by decide +kernel)) rfl
theorem mw_773 : Cond.code yX6_wantedForAt cX6_wantedForAt 4 (some FieldType.int) ∈ GW := wt_4 (List.mem_of_getElem? (i := 195) (by decide +kernel)) rfl
theorem mw_774 : Cond.methodLink RX10 120 yX6_rainsAt ∈ GW := wt_4 (List.mem_of_getElem? (i := 196) (by decide +kernel)) rfl
theorem mw_775 : Cond.methodLink RX2 111 yX2_plus ∈ GW := wt_4 (List.mem_of_getElem? (i := 197) (by decide +kernel)) rfl
theorem mw_776 : Cond.static yX2_plus ∈ GW := wt_4 (List.mem_of_getElem? (i := 198) (by decide +kernel)) rfl
theorem mw_777 : Cond.code yX2_plus cX2_plus 2 (some FieldType.int) ∈ GW := wt_4 (List.mem_of_getElem? (i := 199) (by decide +kernel)) rfl
theorem mw_778 : Cond.methodLink RX2 114 yX10_waitFor ∈ GW := wt_4 (List.mem_of_getElem? (i := 200) (by decide +kernel)) rfl
theorem mw_779 : Cond.instanceMethod yX10_waitFor ∈ GW := wt_4 (List.mem_of_getElem? (i := 201) (by decide +kernel)) rfl
theorem mw_780 : Cond.selects RX10 yX10_waitFor yX10_waitFor ∈ GW := wt_4 (List.mem_of_getElem? (i := 202) (by decide +kernel)) rfl
theorem mw_781 : Cond.code yX10_waitFor cX10_waitFor 2 (some FieldType.int) ∈ GW := wt_4 (List.mem_of_getElem? (i := 203) (by decide +kernel)) rfl
theorem mw_782 : Cond.methodLink RX2 117 yX10_takeOwed ∈ GW := wt_4 (List.mem_of_getElem? (i := 204) (by decide +kernel)) rfl
theorem mw_783 : Cond.instanceMethod yX10_takeOwed ∈ GW := wt_4 (List.mem_of_getElem? (i := 205) (by decide +kernel)) rfl
theorem mw_784 : Cond.selects RX10 yX10_takeOwed yX10_takeOwed ∈ GW := wt_4 (List.mem_of_getElem? (i := 206) (by decide +kernel)) rfl
theorem mw_785 : Cond.code yX10_takeOwed cX10_takeOwed 2 (some FieldType.int) ∈ GW := wt_4 (List.mem_of_getElem? (i := 207) (by decide +kernel)) rfl
theorem mw_786 : Cond.methodLink RX10 124 yX10_owedTo ∈ GW := wt_4 (List.mem_of_getElem? (i := 208) (by decide +kernel)) rfl
theorem mw_787 : Cond.instanceMethod yX10_owedTo ∈ GW := wt_4 (List.mem_of_getElem? (i := 209) (by decide +kernel)) rfl
theorem mw_788 : Cond.selects RX10 yX10_owedTo yX10_owedTo ∈ GW := wt_4 (List.mem_of_getElem? (i := 210) (by decide +kernel)) rfl
theorem mw_789 : Cond.code yX10_owedTo cX10_owedTo 3 (some FieldType.int) ∈ GW := wt_4 (List.mem_of_getElem? (i := 211) (by decide +kernel)) rfl
theorem mw_790 : Cond.methodLink RX2 121 yX10_teach ∈ GW := wt_4 (List.mem_of_getElem? (i := 212) (by decide +kernel)) rfl
theorem mw_791 : Cond.instanceMethod yX10_teach ∈ GW := wt_4 (List.mem_of_getElem? (i := 213) (by decide +kernel)) rfl
theorem mw_792 : Cond.selects RX10 yX10_teach yX10_teach ∈ GW := wt_4 (List.mem_of_getElem? (i := 214) (by decide +kernel)) rfl
theorem mw_793 : Cond.code yX10_teach cX10_teach 3 (some FieldType.int) ∈ GW := wt_4 (List.mem_of_getElem? (i := 215) (by decide +kernel)) rfl
theorem mw_794 : Cond.methodLink RX11 181 yX11_keepTrial ∈ GW := wt_4 (List.mem_of_getElem? (i := 216) (by decide +kernel)) rfl
theorem mw_795 : Cond.instanceMethod yX11_keepTrial ∈ GW := wt_4 (List.mem_of_getElem? (i := 218) (by decide +kernel)) rfl
theorem mw_796 : Cond.code yX11_keepTrial cX11_keepTrial 2 none ∈ GW := wt_4 (List.mem_of_getElem? (i := 219) (by decide +kernel)) rfl
theorem mw_797 : Cond.methodLink RX11 350 yX11_forgetOldest ∈ GW := wt_4 (List.mem_of_getElem? (i := 220) (by decide +kernel)) rfl
theorem mw_798 : Cond.instanceMethod yX11_forgetOldest ∈ GW := wt_4 (List.mem_of_getElem? (i := 222) (by decide +kernel)) rfl
theorem mw_799 : Cond.code yX11_forgetOldest cX11_forgetOldest 3 none ∈ GW := wt_4 (List.mem_of_getElem? (i := 223) (by decide +kernel)) rfl
theorem mw_800 : Cond.methodLink RL 182 yX11_logged ∈ GW := wt_4 (List.mem_of_getElem? (i := 224) (by decide +kernel)) rfl
theorem mw_801 : Cond.instanceMethod yX11_logged ∈ GW := wt_4 (List.mem_of_getElem? (i := 225) (by decide +kernel)) rfl
theorem mw_802 : Cond.selects RX11 yX11_logged yX11_logged ∈ GW := wt_4 (List.mem_of_getElem? (i := 226) (by decide +kernel)) rfl
theorem mw_803 : Cond.code yX11_logged cX11_logged 2 (some FieldType.int) ∈ GW := wt_4 (List.mem_of_getElem? (i := 227) (by decide +kernel)) rfl
theorem mw_804 : Cond.methodLink RL 202 yX11_count ∈ GW := wt_4 (List.mem_of_getElem? (i := 228) (by decide +kernel)) rfl
theorem mw_805 : Cond.instanceMethod yX11_count ∈ GW := wt_4 (List.mem_of_getElem? (i := 229) (by decide +kernel)) rfl
theorem mw_806 : Cond.selects RX11 yX11_count yX11_count ∈ GW := wt_4 (List.mem_of_getElem? (i := 230) (by decide +kernel)) rfl
theorem mw_807 : Cond.code yX11_count cX11_count 2 (some FieldType.int) ∈ GW := wt_4 (List.mem_of_getElem? (i := 231) (by decide +kernel)) rfl
theorem mw_808 : Cond.methodLink RL 54 yX11_way ∈ GW := wt_4 (List.mem_of_getElem? (i := 232) (by decide +kernel)) rfl
theorem mw_809 : Cond.instanceMethod yX11_way ∈ GW := wt_4 (List.mem_of_getElem? (i := 233) (by decide +kernel)) rfl
theorem mw_810 : Cond.selects RX11 yX11_way yX11_way ∈ GW := wt_4 (List.mem_of_getElem? (i := 234) (by decide +kernel)) rfl
theorem mw_811 : Cond.code yX11_way cX11_way 3 (some FieldType.int) ∈ GW := wt_4 (List.mem_of_getElem? (i := 235) (by decide +kernel)) rfl
theorem mw_812 : Cond.methodLink RX11 230 yX6_hasPorts ∈ GW := wt_4 (List.mem_of_getElem? (i := 236) (by decide +kernel)) rfl
theorem mw_813 : Cond.methodLink RX11 236 yX11_orNone ∈ GW := wt_4 (List.mem_of_getElem? (i := 237) (by decide +kernel)) rfl
theorem mw_814 : Cond.static yX11_orNone ∈ GW := wt_4 (List.mem_of_getElem? (i := 238) (by decide +kernel)) rfl
theorem mw_815 : Cond.code yX11_orNone cX11_orNone 1 (some FieldType.int) ∈ GW := wt_4 (List.mem_of_getElem? (i := 239) (by decide +kernel)) rfl
theorem mw_816 : Cond.methodLink RL 58 yX11_mail ∈ GW := wt_5 (List.mem_of_getElem? (i := 0) (by decide +kernel)) rfl
theorem mw_817 : Cond.instanceMethod yX11_mail ∈ GW := wt_5 (List.mem_of_getElem? (i := 1) (by decide +kernel)) rfl
theorem mw_818 : Cond.selects RX11 yX11_mail yX11_mail ∈ GW := wt_5 (List.mem_of_getElem? (i := 2) (by decide +kernel)) rfl
theorem mw_819 : Cond.code yX11_mail cX11_mail 3 (some FieldType.int) ∈ GW := wt_5 (List.mem_of_getElem? (i := 3) (by decide +kernel)) rfl
theorem mw_820 : Cond.methodLink RL 62 yX11_price ∈ GW := wt_5 (List.mem_of_getElem? (i := 4) (by decide +kernel)) rfl
theorem mw_821 : Cond.instanceMethod yX11_price ∈ GW := wt_5 (List.mem_of_getElem? (i := 5) (by decide +kernel)) rfl
theorem mw_822 : Cond.selects RX11 yX11_price yX11_price ∈ GW := wt_5 (List.mem_of_getElem? (i := 6) (by decide +kernel)) rfl
theorem mw_823 : Cond.code yX11_price cX11_price 4 (some FieldType.int) ∈ GW := wt_5 (List.mem_of_getElem? (i := 7) (by decide +kernel)) rfl
theorem mw_824 : Cond.methodLink RX11 204 yX6_has ∈ GW := wt_5 (List.mem_of_getElem? (i := 8) (by decide +kernel)) rfl
theorem mw_825 : Cond.methodLink RX11 246 yX10_owedTo ∈ GW := wt_5 (List.mem_of_getElem? (i := 9) (by decide +kernel)) rfl
theorem mw_826 : Cond.methodLink RL 103 yX11_far ∈ GW := wt_5 (List.mem_of_getElem? (i := 10) (by decide +kernel)) rfl
theorem mw_827 : Cond.instanceMethod yX11_far ∈ GW := wt_5 (List.mem_of_getElem? (i := 11) (by decide +kernel)) rfl
theorem mw_828 : Cond.selects RX11 yX11_far yX11_far ∈ GW := wt_5 (List.mem_of_getElem? (i := 12) (by decide +kernel)) rfl
theorem mw_829 : Cond.code yX11_far cX11_far 3 (some FieldType.int) ∈ GW := wt_5 (List.mem_of_getElem? (i := 13) (by decide +kernel)) rfl
theorem mw_830 : Cond.methodLink RX11 252 yX11_orNever ∈ GW := wt_5 (List.mem_of_getElem? (i := 14) (by decide +kernel)) rfl
theorem mw_831 : Cond.static yX11_orNever ∈ GW := wt_5 (List.mem_of_getElem? (i := 15) (by decide +kernel)) rfl
theorem mw_832 : Cond.code yX11_orNever cX11_orNever 1 (some FieldType.int) ∈ GW := wt_5 (List.mem_of_getElem? (i := 16) (by decide +kernel)) rfl
theorem mw_833 : Cond.constant RX11 242 (1000000) ∈ GW := wt_5 (List.mem_of_getElem? (i := 17) (by decide +kernel)) rfl
theorem mw_834 : Cond.methodLink RL 107 yX11_hears ∈ GW := wt_5 (List.mem_of_getElem? (i := 18) (by decide +kernel)) rfl
theorem mw_835 : Cond.instanceMethod yX11_hears ∈ GW := wt_5 (List.mem_of_getElem? (i := 19) (by decide +kernel)) rfl
theorem mw_836 : Cond.selects RX11 yX11_hears yX11_hears ∈ GW := wt_5 (List.mem_of_getElem? (i := 20) (by decide +kernel)) rfl
theorem mw_837 : Cond.code yX11_hears cX11_hears 3 (some FieldType.int) ∈ GW := wt_5 (List.mem_of_getElem? (i := 21) (by decide +kernel)) rfl
theorem mw_838 : Cond.methodLink RX11 255 yX6_hearsFrom ∈ GW := wt_5 (List.mem_of_getElem? (i := 22) (by decide +kernel)) rfl
theorem mw_839 : Cond.methodLink RL 119 yX11_names ∈ GW := wt_5 (List.mem_of_getElem? (i := 23) (by decide +kernel)) rfl
theorem mw_840 : Cond.instanceMethod yX11_names ∈ GW := wt_5 (List.mem_of_getElem? (i := 24) (by decide +kernel)) rfl
theorem mw_841 : Cond.selects RX11 yX11_names yX11_names ∈ GW := wt_5 (List.mem_of_getElem? (i := 25) (by decide +kernel)) rfl
theorem mw_842 : Cond.code yX11_names cX11_names 1 (some FieldType.int) ∈ GW := wt_5 (List.mem_of_getElem? (i := 26) (by decide +kernel)) rfl
theorem mw_843 : Cond.methodLink RX11 261 yX0_fewest ∈ GW := wt_5 (List.mem_of_getElem? (i := 27) (by decide +kernel)) rfl
theorem mw_844 : Cond.instanceMethod yX0_fewest ∈ GW := wt_5 (List.mem_of_getElem? (i := 28) (by decide +kernel)) rfl
theorem mw_845 : Cond.selects RX0 yX0_fewest yX0_fewest ∈ GW := wt_5 (List.mem_of_getElem? (i := 29) (by decide +kernel)) rfl
theorem mw_846 : Cond.code yX0_fewest cX0_fewest 2 (some FieldType.int) ∈ GW := wt_5 (List.mem_of_getElem? (i := 30) (by decide +kernel)) rfl
theorem mw_847 : Cond.methodLink RX0 24 yX0_giveFrom ∈ GW := wt_5 (List.mem_of_getElem? (i := 31) (by decide +kernel)) rfl
theorem mw_848 : Cond.instanceMethod yX0_giveFrom ∈ GW := wt_5 (List.mem_of_getElem? (i := 33) (by decide +kernel)) rfl
theorem mw_849 : Cond.code yX0_giveFrom cX0_giveFrom 5 (some FieldType.boolean) ∈ GW := wt_5 (List.mem_of_getElem? (i := 34) (by decide +kernel)) rfl
theorem mw_850 : Cond.methodLink RX0 28 yX0_isFree ∈ GW := wt_5 (List.mem_of_getElem? (i := 35) (by decide +kernel)) rfl
theorem mw_851 : Cond.instanceMethod yX0_isFree ∈ GW := wt_5 (List.mem_of_getElem? (i := 37) (by decide +kernel)) rfl
theorem mw_852 : Cond.code yX0_isFree cX0_isFree 4 (some FieldType.boolean) ∈ GW := wt_5 (List.mem_of_getElem? (i := 38) (by decide +kernel)) rfl
theorem mw_853 : Cond.methodLink RX0 38 yX6_hearsFrom ∈ GW := wt_5 (List.mem_of_getElem? (i := 39) (by decide +kernel)) rfl
theorem mw_854 : Cond.methodLink RX0 32 yJ9_max_7cf53 ∈ GW := wt_5 (List.mem_of_getElem? (i := 40) (by decide +kernel)) rfl
theorem mw_855 : Cond.methodLink RL 123 yX11_nameOf ∈ GW := wt_5 (List.mem_of_getElem? (i := 41) (by decide +kernel)) rfl
theorem mw_856 : Cond.instanceMethod yX11_nameOf ∈ GW := wt_5 (List.mem_of_getElem? (i := 42) (by decide +kernel)) rfl
theorem mw_857 : Cond.selects RX11 yX11_nameOf yX11_nameOf ∈ GW := wt_5 (List.mem_of_getElem? (i := 43) (by decide +kernel)) rfl
theorem mw_858 : Cond.code yX11_nameOf cX11_nameOf 2 (some FieldType.int) ∈ GW := wt_5 (List.mem_of_getElem? (i := 44) (by decide +kernel)) rfl
theorem mw_859 : Cond.methodLink RL 127 yX11_register ∈ GW := wt_5 (List.mem_of_getElem? (i := 45) (by decide +kernel)) rfl
theorem mw_860 : Cond.instanceMethod yX11_register ∈ GW := wt_5 (List.mem_of_getElem? (i := 46) (by decide +kernel)) rfl
theorem mw_861 : Cond.selects RX11 yX11_register yX11_register ∈ GW := wt_5 (List.mem_of_getElem? (i := 47) (by decide +kernel)) rfl
theorem mw_862 : Cond.code yX11_register cX11_register 1 (some FieldType.int) ∈ GW := wt_5 (List.mem_of_getElem? (i := 48) (by decide +kernel)) rfl
theorem mw_863 : Cond.methodLink RX11 267 yX5_fewest ∈ GW := wt_5 (List.mem_of_getElem? (i := 49) (by decide +kernel)) rfl
theorem mw_864 : Cond.instanceMethod yX5_fewest ∈ GW := wt_5 (List.mem_of_getElem? (i := 50) (by decide +kernel)) rfl
theorem mw_865 : Cond.selects RX5 yX5_fewest yX5_fewest ∈ GW := wt_5 (List.mem_of_getElem? (i := 51) (by decide +kernel)) rfl
theorem mw_866 : Cond.code yX5_fewest cX5_fewest 4 (some FieldType.int) ∈ GW := wt_5 (List.mem_of_getElem? (i := 52) (by decide +kernel)) rfl
theorem mw_867 : Cond.methodLink RX5 23 yX6_has ∈ GW := wt_5 (List.mem_of_getElem? (i := 53) (by decide +kernel)) rfl
theorem mw_868 : Cond.methodLink RX5 29 yX5_findApart ∈ GW := wt_5 (List.mem_of_getElem? (i := 54) (by decide +kernel)) rfl
theorem mw_869 : Cond.instanceMethod yX5_findApart ∈ GW := wt_5 (List.mem_of_getElem? (i := 56) (by decide +kernel)) rfl
theorem mw_870 : Cond.code yX5_findApart cX5_findApart 6 (some FieldType.int) ∈ GW := wt_5 (List.mem_of_getElem? (i := 57) (by decide +kernel)) rfl
theorem mw_871 : Cond.methodLink RX5 37 yJ9_abs_0f7a4 ∈ GW := wt_5 (List.mem_of_getElem? (i := 58) (by decide +kernel)) rfl
theorem mw_872 : Cond.static yJ9_abs_0f7a4 ∈ GW := wt_5 (List.mem_of_getElem? (i := 59) (by decide +kernel)) rfl
theorem mw_873 : Cond.code yJ9_abs_0f7a4 cJ9_abs_0f7a4 1 (some FieldType.int) ∈ GW := wt_5 (List.mem_of_getElem? (i := 60) (by decide +kernel)) rfl
theorem mw_874 : Cond.methodLink RX5 33 yX5_mostApart ∈ GW := wt_5 (List.mem_of_getElem? (i := 61) (by decide +kernel)) rfl
theorem mw_875 : Cond.instanceMethod yX5_mostApart ∈ GW := wt_5 (List.mem_of_getElem? (i := 63) (by decide +kernel)) rfl
theorem mw_876 : Cond.code yX5_mostApart cX5_mostApart 5 (some FieldType.int) ∈ GW := wt_5 (List.mem_of_getElem? (i := 64) (by decide +kernel)) rfl
theorem mw_877 : Cond.methodLink RX5 45 yJ6_bitCount_0f7a4 ∈ GW := wt_5 (List.mem_of_getElem? (i := 65) (by decide +kernel)) rfl
theorem mw_878 : Cond.methodLink RX5 50 yX5_areApart ∈ GW := wt_5 (List.mem_of_getElem? (i := 66) (by decide +kernel)) rfl
theorem mw_879 : Cond.instanceMethod yX5_areApart ∈ GW := wt_5 (List.mem_of_getElem? (i := 68) (by decide +kernel)) rfl
theorem mw_880 : Cond.code yX5_areApart cX5_areApart 5 (some FieldType.boolean) ∈ GW := wt_5 (List.mem_of_getElem? (i := 69) (by decide +kernel)) rfl
theorem mw_881 : Cond.methodLink RL 143 yX11_needs ∈ GW := wt_5 (List.mem_of_getElem? (i := 70) (by decide +kernel)) rfl
theorem mw_882 : Cond.instanceMethod yX11_needs ∈ GW := wt_5 (List.mem_of_getElem? (i := 71) (by decide +kernel)) rfl
theorem mw_883 : Cond.selects RX11 yX11_needs yX11_needs ∈ GW := wt_5 (List.mem_of_getElem? (i := 72) (by decide +kernel)) rfl
theorem mw_884 : Cond.code yX11_needs cX11_needs 2 (some FieldType.int) ∈ GW := wt_5 (List.mem_of_getElem? (i := 73) (by decide +kernel)) rfl
theorem mw_885 : Cond.methodLink RL 147 yX11_over ∈ GW := wt_5 (List.mem_of_getElem? (i := 74) (by decide +kernel)) rfl
theorem mw_886 : Cond.instanceMethod yX11_over ∈ GW := wt_5 (List.mem_of_getElem? (i := 75) (by decide +kernel)) rfl
theorem mw_887 : Cond.selects RX11 yX11_over yX11_over ∈ GW := wt_5 (List.mem_of_getElem? (i := 76) (by decide +kernel)) rfl
theorem mw_888 : Cond.code yX11_over cX11_over 3 (some FieldType.int) ∈ GW := wt_5 (List.mem_of_getElem? (i := 77) (by decide +kernel)) rfl
theorem mw_889 : Cond.methodLink RX11 272 yX6_shipOver ∈ GW := wt_5 (List.mem_of_getElem? (i := 78) (by decide +kernel)) rfl
theorem mw_890 : Cond.instanceMethod yX6_shipOver ∈ GW := wt_5 (List.mem_of_getElem? (i := 79) (by decide +kernel)) rfl
theorem mw_891 : Cond.selects RX6 yX6_shipOver yX6_shipOver ∈ GW := wt_5 (List.mem_of_getElem? (i := 80) (by decide +kernel)) rfl
theorem mw_892 : Cond.code yX6_shipOver cX6_shipOver 10 (some FieldType.int) ∈ GW := wt_5 (List.mem_of_getElem? (i := 81) (by decide +kernel)) rfl
theorem mw_893 : Cond.methodLink RX6 93 yX3_wordOf ∈ GW := wt_5 (List.mem_of_getElem? (i := 82) (by decide +kernel)) rfl
theorem mw_894 : Cond.instanceMethod yX3_wordOf ∈ GW := wt_5 (List.mem_of_getElem? (i := 83) (by decide +kernel)) rfl
theorem mw_895 : Cond.selects RX3 yX3_wordOf yX3_wordOf ∈ GW := wt_5 (List.mem_of_getElem? (i := 84) (by decide +kernel)) rfl
theorem mw_896 : Cond.code yX3_wordOf cX3_wordOf 4 (some FieldType.long) ∈ GW := wt_5 (List.mem_of_getElem? (i := 85) (by decide +kernel)) rfl
theorem mw_897 : Cond.constantLong RX6 99 (31) ∈ GW := wt_5 (List.mem_of_getElem? (i := 86) (by decide +kernel)) rfl
theorem mw_898 : Cond.methodLink RX6 101 yJ9_max_f86c9 ∈ GW := wt_5 (List.mem_of_getElem? (i := 87) (by decide +kernel)) rfl
theorem mw_899 : Cond.static yJ9_max_f86c9 ∈ GW := wt_5 (List.mem_of_getElem? (i := 88) (by decide +kernel)) rfl
theorem mw_900 : Cond.code yJ9_max_f86c9 cJ9_max_f86c9 4 (some FieldType.long) ∈ GW := wt_5 (List.mem_of_getElem? (i := 89) (by decide +kernel)) rfl
theorem mw_901 : Cond.methodLink RX6 105 yX3_find ∈ GW := wt_5 (List.mem_of_getElem? (i := 90) (by decide +kernel)) rfl
theorem mw_902 : Cond.methodLink RL 151 yX11_mixed ∈ GW := wt_5 (List.mem_of_getElem? (i := 91) (by decide +kernel)) rfl
theorem mw_903 : Cond.instanceMethod yX11_mixed ∈ GW := wt_5 (List.mem_of_getElem? (i := 92) (by decide +kernel)) rfl
theorem mw_904 : Cond.selects RX11 yX11_mixed yX11_mixed ∈ GW := wt_5 (List.mem_of_getElem? (i := 93) (by decide +kernel)) rfl
theorem mw_905 : Cond.code yX11_mixed cX11_mixed 6 (some FieldType.int) ∈ GW := wt_5 (List.mem_of_getElem? (i := 94) (by decide +kernel)) rfl
theorem mw_906 : Cond.methodLink RL 67 yX11_now ∈ GW := wt_5 (List.mem_of_getElem? (i := 95) (by decide +kernel)) rfl
theorem mw_907 : Cond.instanceMethod yX11_now ∈ GW := wt_5 (List.mem_of_getElem? (i := 96) (by decide +kernel)) rfl
theorem mw_908 : Cond.selects RX11 yX11_now yX11_now ∈ GW := wt_5 (List.mem_of_getElem? (i := 97) (by decide +kernel)) rfl
theorem mw_909 : Cond.code yX11_now cX11_now 2 (some FieldType.int) ∈ GW := wt_5 (List.mem_of_getElem? (i := 98) (by decide +kernel)) rfl
theorem mw_910 : Cond.methodLink RL 139 yX11_man ∈ GW := wt_5 (List.mem_of_getElem? (i := 99) (by decide +kernel)) rfl
theorem mw_911 : Cond.instanceMethod yX11_man ∈ GW := wt_5 (List.mem_of_getElem? (i := 100) (by decide +kernel)) rfl
theorem mw_912 : Cond.selects RX11 yX11_man yX11_man ∈ GW := wt_5 (List.mem_of_getElem? (i := 101) (by decide +kernel)) rfl
theorem mw_913 : Cond.code yX11_man cX11_man 2 (some FieldType.int) ∈ GW := wt_5 (List.mem_of_getElem? (i := 102) (by decide +kernel)) rfl
theorem mw_914 : Cond.methodLink RL 131 yX11_lacks ∈ GW := wt_5 (List.mem_of_getElem? (i := 103) (by decide +kernel)) rfl
theorem mw_915 : Cond.instanceMethod yX11_lacks ∈ GW := wt_5 (List.mem_of_getElem? (i := 104) (by decide +kernel)) rfl
theorem mw_916 : Cond.selects RX11 yX11_lacks yX11_lacks ∈ GW := wt_5 (List.mem_of_getElem? (i := 105) (by decide +kernel)) rfl
theorem mw_917 : Cond.code yX11_lacks cX11_lacks 2 (some FieldType.int) ∈ GW := wt_5 (List.mem_of_getElem? (i := 106) (by decide +kernel)) rfl
theorem mw_918 : Cond.methodLink RX11 299 yX10_hasMenFor ∈ GW := wt_5 (List.mem_of_getElem? (i := 107) (by decide +kernel)) rfl
theorem mw_919 : Cond.instanceMethod yX10_hasMenFor ∈ GW := wt_5 (List.mem_of_getElem? (i := 108) (by decide +kernel)) rfl
theorem mw_920 : Cond.selects RX10 yX10_hasMenFor yX10_hasMenFor ∈ GW := wt_5 (List.mem_of_getElem? (i := 109) (by decide +kernel)) rfl
theorem mw_921 : Cond.code yX10_hasMenFor cX10_hasMenFor 2 (some FieldType.boolean) ∈ GW := wt_5 (List.mem_of_getElem? (i := 110) (by decide +kernel)) rfl
theorem mw_922 : Cond.methodLink RX11 302 yX10_allMen ∈ GW := wt_5 (List.mem_of_getElem? (i := 111) (by decide +kernel)) rfl
theorem mw_923 : Cond.methodLink RX11 305 yX10_lacking ∈ GW := wt_5 (List.mem_of_getElem? (i := 112) (by decide +kernel)) rfl
theorem mw_924 : Cond.methodLink RL 135 yX11_plays ∈ GW := wt_5 (List.mem_of_getElem? (i := 113) (by decide +kernel)) rfl
theorem mw_925 : Cond.instanceMethod yX11_plays ∈ GW := wt_5 (List.mem_of_getElem? (i := 114) (by decide +kernel)) rfl
theorem mw_926 : Cond.selects RX11 yX11_plays yX11_plays ∈ GW := wt_5 (List.mem_of_getElem? (i := 115) (by decide +kernel)) rfl
theorem mw_927 : Cond.code yX11_plays cX11_plays 4 (some FieldType.int) ∈ GW := wt_5 (List.mem_of_getElem? (i := 116) (by decide +kernel)) rfl
theorem mw_928 : Cond.methodLink RX11 308 yX10_playerOf ∈ GW := wt_5 (List.mem_of_getElem? (i := 117) (by decide +kernel)) rfl
theorem mw_929 : Cond.instanceMethod yX10_playerOf ∈ GW := wt_5 (List.mem_of_getElem? (i := 118) (by decide +kernel)) rfl
theorem mw_930 : Cond.selects RX10 yX10_playerOf yX10_playerOf ∈ GW := wt_5 (List.mem_of_getElem? (i := 119) (by decide +kernel)) rfl
theorem mw_931 : Cond.code yX10_playerOf cX10_playerOf 7 (some FieldType.int) ∈ GW := wt_5 (List.mem_of_getElem? (i := 120) (by decide +kernel)) rfl
theorem mw_932 : Cond.methodLink RX10 160 yX10_firstFitting ∈ GW := wt_5 (List.mem_of_getElem? (i := 121) (by decide +kernel)) rfl
theorem mw_933 : Cond.instanceMethod yX10_firstFitting ∈ GW := wt_5 (List.mem_of_getElem? (i := 123) (by decide +kernel)) rfl
theorem mw_934 : Cond.code yX10_firstFitting cX10_firstFitting 7 (some FieldType.int) ∈ GW := wt_5 (List.mem_of_getElem? (i := 124) (by decide +kernel)) rfl
theorem mw_935 : Cond.methodLink RL 95 yX11_knows ∈ GW := wt_5 (List.mem_of_getElem? (i := 125) (by decide +kernel)) rfl
theorem mw_936 : Cond.instanceMethod yX11_knows ∈ GW := wt_5 (List.mem_of_getElem? (i := 126) (by decide +kernel)) rfl
theorem mw_937 : Cond.selects RX11 yX11_knows yX11_knows ∈ GW := wt_5 (List.mem_of_getElem? (i := 127) (by decide +kernel)) rfl
theorem mw_938 : Cond.code yX11_knows cX11_knows 3 (some FieldType.int) ∈ GW := wt_5 (List.mem_of_getElem? (i := 128) (by decide +kernel)) rfl
theorem mw_939 : Cond.methodLink RL 99 yX11_first ∈ GW := wt_5 (List.mem_of_getElem? (i := 129) (by decide +kernel)) rfl
theorem mw_940 : Cond.instanceMethod yX11_first ∈ GW := wt_5 (List.mem_of_getElem? (i := 130) (by decide +kernel)) rfl
theorem mw_941 : Cond.selects RX11 yX11_first yX11_first ∈ GW := wt_5 (List.mem_of_getElem? (i := 131) (by decide +kernel)) rfl
theorem mw_942 : Cond.code yX11_first cX11_first 5 (some FieldType.int) ∈ GW := wt_5 (List.mem_of_getElem? (i := 132) (by decide +kernel)) rfl
theorem mw_943 : Cond.methodLink RL 111 yX11_safe ∈ GW := wt_5 (List.mem_of_getElem? (i := 133) (by decide +kernel)) rfl
theorem mw_944 : Cond.instanceMethod yX11_safe ∈ GW := wt_5 (List.mem_of_getElem? (i := 134) (by decide +kernel)) rfl
theorem mw_945 : Cond.selects RX11 yX11_safe yX11_safe ∈ GW := wt_5 (List.mem_of_getElem? (i := 135) (by decide +kernel)) rfl
theorem mw_946 : Cond.code yX11_safe cX11_safe 2 (some FieldType.int) ∈ GW := wt_5 (List.mem_of_getElem? (i := 136) (by decide +kernel)) rfl
theorem mw_947 : Cond.methodLink RX11 314 yX10_canSailTo ∈ GW := wt_5 (List.mem_of_getElem? (i := 137) (by decide +kernel)) rfl
theorem mw_948 : Cond.methodLink RX11 317 yX10_safeNamesTo ∈ GW := wt_5 (List.mem_of_getElem? (i := 138) (by decide +kernel)) rfl
theorem mw_949 : Cond.methodLink RL 115 yX11_outruns ∈ GW := wt_5 (List.mem_of_getElem? (i := 139) (by decide +kernel)) rfl
theorem mw_950 : Cond.instanceMethod yX11_outruns ∈ GW := wt_5 (List.mem_of_getElem? (i := 140) (by decide +kernel)) rfl
theorem mw_951 : Cond.selects RX11 yX11_outruns yX11_outruns ∈ GW := wt_5 (List.mem_of_getElem? (i := 141) (by decide +kernel)) rfl
theorem mw_952 : Cond.code yX11_outruns cX11_outruns 2 (some FieldType.int) ∈ GW := wt_5 (List.mem_of_getElem? (i := 142) (by decide +kernel)) rfl
theorem mw_953 : Cond.methodLink RX11 320 yX6_isForHer ∈ GW := wt_5 (List.mem_of_getElem? (i := 143) (by decide +kernel)) rfl
theorem mw_954 : Cond.methodLink RX11 323 yX10_farTo ∈ GW := wt_5 (List.mem_of_getElem? (i := 144) (by decide +kernel)) rfl
theorem mw_955 : Cond.methodLink RL 162 yX11_soonest ∈ GW := wt_5 (List.mem_of_getElem? (i := 145) (by decide +kernel)) rfl
theorem mw_956 : Cond.instanceMethod yX11_soonest ∈ GW := wt_5 (List.mem_of_getElem? (i := 146) (by decide +kernel)) rfl
theorem mw_957 : Cond.selects RX11 yX11_soonest yX11_soonest ∈ GW := wt_5 (List.mem_of_getElem? (i := 147) (by decide +kernel)) rfl
theorem mw_958 : Cond.code yX11_soonest cX11_soonest 2 (some FieldType.int) ∈ GW := wt_5 (List.mem_of_getElem? (i := 148) (by decide +kernel)) rfl
theorem mw_959 : Cond.methodLink RX11 326 yX10_goal ∈ GW := wt_5 (List.mem_of_getElem? (i := 149) (by decide +kernel)) rfl
theorem mw_960 : Cond.instanceMethod yX10_goal ∈ GW := wt_5 (List.mem_of_getElem? (i := 150) (by decide +kernel)) rfl
theorem mw_961 : Cond.selects RX10 yX10_goal yX10_goal ∈ GW := wt_5 (List.mem_of_getElem? (i := 151) (by decide +kernel)) rfl
theorem mw_962 : Cond.code yX10_goal cX10_goal 6 (some FieldType.int) ∈ GW := wt_5 (List.mem_of_getElem? (i := 152) (by decide +kernel)) rfl
theorem mw_963 : Cond.methodLink RX10 176 yX10_farTo ∈ GW := wt_5 (List.mem_of_getElem? (i := 153) (by decide +kernel)) rfl
theorem mw_964 : Cond.methodLink RL 166 yX11_where ∈ GW := wt_5 (List.mem_of_getElem? (i := 154) (by decide +kernel)) rfl
theorem mw_965 : Cond.instanceMethod yX11_where ∈ GW := wt_5 (List.mem_of_getElem? (i := 155) (by decide +kernel)) rfl
theorem mw_966 : Cond.selects RX11 yX11_where yX11_where ∈ GW := wt_5 (List.mem_of_getElem? (i := 156) (by decide +kernel)) rfl
theorem mw_967 : Cond.code yX11_where cX11_where 1 (some FieldType.int) ∈ GW := wt_5 (List.mem_of_getElem? (i := 157) (by decide +kernel)) rfl
theorem mw_968 : Cond.methodLink RL 71 yX11_paint ∈ GW := wt_5 (List.mem_of_getElem? (i := 158) (by decide +kernel)) rfl
theorem mw_969 : Cond.instanceMethod yX11_paint ∈ GW := wt_5 (List.mem_of_getElem? (i := 159) (by decide +kernel)) rfl
theorem mw_970 : Cond.selects RX11 yX11_paint yX11_paint ∈ GW := wt_5 (List.mem_of_getElem? (i := 160) (by decide +kernel)) rfl
theorem mw_971 : Cond.code yX11_paint cX11_paint 2 (some FieldType.int) ∈ GW := wt_5 (List.mem_of_getElem? (i := 161) (by decide +kernel)) rfl
theorem mw_972 : Cond.methodLink RX11 329 yX10_paintAs ∈ GW := wt_5 (List.mem_of_getElem? (i := 162) (by decide +kernel)) rfl
theorem mw_973 : Cond.methodLink RX11 332 yX11_keepIfDone ∈ GW := wt_5 (List.mem_of_getElem? (i := 163) (by decide +kernel)) rfl
theorem mw_974 : Cond.instanceMethod yX11_keepIfDone ∈ GW := wt_5 (List.mem_of_getElem? (i := 165) (by decide +kernel)) rfl
theorem mw_975 : Cond.code yX11_keepIfDone cX11_keepIfDone 2 (some FieldType.int) ∈ GW := wt_5 (List.mem_of_getElem? (i := 166) (by decide +kernel)) rfl
theorem mw_976 : Cond.methodLink RL 75 yX11_sail ∈ GW := wt_5 (List.mem_of_getElem? (i := 167) (by decide +kernel)) rfl
theorem mw_977 : Cond.instanceMethod yX11_sail ∈ GW := wt_5 (List.mem_of_getElem? (i := 168) (by decide +kernel)) rfl
theorem mw_978 : Cond.selects RX11 yX11_sail yX11_sail ∈ GW := wt_5 (List.mem_of_getElem? (i := 169) (by decide +kernel)) rfl
theorem mw_979 : Cond.code yX11_sail cX11_sail 2 (some FieldType.int) ∈ GW := wt_5 (List.mem_of_getElem? (i := 170) (by decide +kernel)) rfl
theorem mw_980 : Cond.methodLink RX11 335 yX10_sailTo ∈ GW := wt_5 (List.mem_of_getElem? (i := 171) (by decide +kernel)) rfl
theorem mw_981 : Cond.methodLink RL 79 yX11_waits ∈ GW := wt_5 (List.mem_of_getElem? (i := 172) (by decide +kernel)) rfl
theorem mw_982 : Cond.instanceMethod yX11_waits ∈ GW := wt_5 (List.mem_of_getElem? (i := 173) (by decide +kernel)) rfl
theorem mw_983 : Cond.selects RX11 yX11_waits yX11_waits ∈ GW := wt_5 (List.mem_of_getElem? (i := 174) (by decide +kernel)) rfl
theorem mw_984 : Cond.code yX11_waits cX11_waits 2 (some FieldType.int) ∈ GW := wt_5 (List.mem_of_getElem? (i := 175) (by decide +kernel)) rfl
theorem mw_985 : Cond.methodLink RX11 338 yX10_waitFor ∈ GW := wt_5 (List.mem_of_getElem? (i := 176) (by decide +kernel)) rfl
theorem mw_986 : Cond.methodLink RL 83 yX11_takes ∈ GW := wt_5 (List.mem_of_getElem? (i := 177) (by decide +kernel)) rfl
theorem mw_987 : Cond.instanceMethod yX11_takes ∈ GW := wt_5 (List.mem_of_getElem? (i := 178) (by decide +kernel)) rfl
theorem mw_988 : Cond.selects RX11 yX11_takes yX11_takes ∈ GW := wt_5 (List.mem_of_getElem? (i := 179) (by decide +kernel)) rfl
theorem mw_989 : Cond.code yX11_takes cX11_takes 1 (some FieldType.int) ∈ GW := wt_5 (List.mem_of_getElem? (i := 180) (by decide +kernel)) rfl
theorem mw_990 : Cond.methodLink RX11 341 yX10_takeOwed ∈ GW := wt_5 (List.mem_of_getElem? (i := 181) (by decide +kernel)) rfl
theorem mw_991 : Cond.methodLink RL 87 yX11_learn ∈ GW := wt_5 (List.mem_of_getElem? (i := 182) (by decide +kernel)) rfl
theorem mw_992 : Cond.instanceMethod yX11_learn ∈ GW := wt_5 (List.mem_of_getElem? (i := 183) (by decide +kernel)) rfl
theorem mw_993 : Cond.selects RX11 yX11_learn yX11_learn ∈ GW := wt_5 (List.mem_of_getElem? (i := 184) (by decide +kernel)) rfl
theorem mw_994 : Cond.code yX11_learn cX11_learn 3 (some FieldType.int) ∈ GW := wt_5 (List.mem_of_getElem? (i := 185) (by decide +kernel)) rfl
theorem mw_995 : Cond.methodLink RX11 344 yX10_teach ∈ GW := wt_5 (List.mem_of_getElem? (i := 186) (by decide +kernel)) rfl
theorem mw_996 : Cond.methodLink RL 170 yX11_drawn ∈ GW := wt_5 (List.mem_of_getElem? (i := 187) (by decide +kernel)) rfl
theorem mw_997 : Cond.instanceMethod yX11_drawn ∈ GW := wt_5 (List.mem_of_getElem? (i := 188) (by decide +kernel)) rfl
theorem mw_998 : Cond.selects RX11 yX11_drawn yX11_drawn ∈ GW := wt_5 (List.mem_of_getElem? (i := 189) (by decide +kernel)) rfl
theorem mw_999 : Cond.code yX11_drawn cX11_drawn 4 (some FieldType.int) ∈ GW := wt_5 (List.mem_of_getElem? (i := 190) (by decide +kernel)) rfl
theorem mw_1000 : Cond.methodLink RX11 347 yX10_drawVoyages ∈ GW := wt_5 (List.mem_of_getElem? (i := 191) (by decide +kernel)) rfl
theorem mw_1001 : Cond.instanceMethod yX10_drawVoyages ∈ GW := wt_5 (List.mem_of_getElem? (i := 192) (by decide +kernel)) rfl
theorem mw_1002 : Cond.selects RX10 yX10_drawVoyages yX10_drawVoyages ∈ GW := wt_5 (List.mem_of_getElem? (i := 193) (by decide +kernel)) rfl
theorem mw_1003 : Cond.code yX10_drawVoyages cX10_drawVoyages 4 (some FieldType.int) ∈ GW := wt_5 (List.mem_of_getElem? (i := 194) (by decide +kernel)) rfl
theorem mw_1004 : Cond.methodLink RX10 130 yX10_drawVoyage ∈ GW := wt_5 (List.mem_of_getElem? (i := 195) (by decide +kernel)) rfl
theorem mw_1005 : Cond.instanceMethod yX10_drawVoyage ∈ GW := wt_5 (List.mem_of_getElem? (i := 197) (by decide +kernel)) rfl
theorem mw_1006 : Cond.code yX10_drawVoyage cX10_drawVoyage 2 none ∈ GW := wt_5 (List.mem_of_getElem? (i := 198) (by decide +kernel)) rfl
theorem mw_1007 : Cond.methodLink RX10 133 yX10_draw ∈ GW := wt_5 (List.mem_of_getElem? (i := 199) (by decide +kernel)) rfl
theorem mw_1008 : Cond.instanceMethod yX10_draw ∈ GW := wt_5 (List.mem_of_getElem? (i := 201) (by decide +kernel)) rfl
theorem mw_1009 : Cond.code yX10_draw cX10_draw 2 (some FieldType.int) ∈ GW := wt_5 (List.mem_of_getElem? (i := 202) (by decide +kernel)) rfl
theorem mw_1010 : Cond.constant RX10 145 (1103515245) ∈ GW := wt_5 (List.mem_of_getElem? (i := 203) (by decide +kernel)) rfl
theorem mw_1011 : Cond.methodLink RX10 136 yX10_paintAs ∈ GW := wt_5 (List.mem_of_getElem? (i := 204) (by decide +kernel)) rfl
theorem mw_1012 : Cond.methodLink RX10 139 yX10_sailTo ∈ GW := wt_5 (List.mem_of_getElem? (i := 205) (by decide +kernel)) rfl
theorem mw_1013 : Cond.methodLink RL 174 yX11_odds ∈ GW := wt_5 (List.mem_of_getElem? (i := 206) (by decide +kernel)) rfl
theorem mw_1014 : Cond.instanceMethod yX11_odds ∈ GW := wt_5 (List.mem_of_getElem? (i := 207) (by decide +kernel)) rfl
theorem mw_1015 : Cond.selects RX11 yX11_odds yX11_odds ∈ GW := wt_5 (List.mem_of_getElem? (i := 208) (by decide +kernel)) rfl
theorem mw_1016 : Cond.code yX11_odds cX11_odds 5 (some FieldType.int) ∈ GW := wt_5 (List.mem_of_getElem? (i := 209) (by decide +kernel)) rfl
theorem mw_1017 : Cond.methodLink RL 91 yX11_undo ∈ GW := wt_5 (List.mem_of_getElem? (i := 210) (by decide +kernel)) rfl
theorem mw_1018 : Cond.instanceMethod yX11_undo ∈ GW := wt_5 (List.mem_of_getElem? (i := 211) (by decide +kernel)) rfl
theorem mw_1019 : Cond.selects RX11 yX11_undo yX11_undo ∈ GW := wt_5 (List.mem_of_getElem? (i := 212) (by decide +kernel)) rfl
theorem mw_1020 : Cond.code yX11_undo cX11_undo 2 (some FieldType.int) ∈ GW := wt_5 (List.mem_of_getElem? (i := 213) (by decide +kernel)) rfl
theorem mw_1021 : Cond.methodLink RL 194 yX11_image ∈ GW := wt_5 (List.mem_of_getElem? (i := 214) (by decide +kernel)) rfl
theorem mw_1022 : Cond.instanceMethod yX11_image ∈ GW := wt_5 (List.mem_of_getElem? (i := 215) (by decide +kernel)) rfl
theorem mw_1023 : Cond.selects RX11 yX11_image yX11_image ∈ GW := wt_5 (List.mem_of_getElem? (i := 216) (by decide +kernel)) rfl
theorem mw_1024 : Cond.code yX11_image cX11_image 3 (some FieldType.boolean) ∈ GW := wt_5 (List.mem_of_getElem? (i := 217) (by decide +kernel)) rfl
theorem mw_1025 : Cond.instantiable RX1 3 ∈ GW := wt_5 (List.mem_of_getElem? (i := 218) (by decide +kernel)) rfl
theorem mw_1026 : Cond.instanceMethod yX1_init ∈ GW := wt_5 (List.mem_of_getElem? (i := 220) (by decide +kernel)) rfl
theorem mw_1027 : Cond.code yX1_init cX1_init 1 none ∈ GW := wt_5 (List.mem_of_getElem? (i := 221) (by decide +kernel)) rfl
theorem mw_1028 : Cond.methodLink RX1 1 objectInit ∈ GW := wt_5 (List.mem_of_getElem? (i := 222) (by decide +kernel)) rfl
theorem mw_1029 : Cond.classLink RX1 7 RX6 ∈ GW := wt_5 (List.mem_of_getElem? (i := 223) (by decide +kernel)) rfl
theorem mw_1030 : Cond.classLink RX1 16 RX10 ∈ GW := wt_5 (List.mem_of_getElem? (i := 225) (by decide +kernel)) rfl
theorem mw_1031 : Cond.methodLink RX1 18 yX10_init ∈ GW := wt_5 (List.mem_of_getElem? (i := 226) (by decide +kernel)) rfl
theorem mw_1032 : Cond.classLink RX1 25 RX8 ∈ GW := wt_5 (List.mem_of_getElem? (i := 227) (by decide +kernel)) rfl
theorem mw_1033 : Cond.fieldLink RX1 10 "FalseName$Image" "sea" "LFalseName$Sea;" ∈ GW := wt_5 (List.mem_of_getElem? (i := 229) (by decide +kernel)) rfl
theorem mw_1034 : Cond.fieldLink RX11 354 "FalseName$Image" "sea" "LFalseName$Sea;" ∈ GW := wt_5 (List.mem_of_getElem? (i := 230) (by decide +kernel)) rfl
theorem mw_1035 : Cond.fieldLink RX1 21 "FalseName$Image" "her" "LFalseName$Ship;" ∈ GW := wt_5 (List.mem_of_getElem? (i := 231) (by decide +kernel)) rfl
theorem mw_1036 : Cond.fieldLink RX11 355 "FalseName$Image" "her" "LFalseName$Ship;" ∈ GW := wt_5 (List.mem_of_getElem? (i := 232) (by decide +kernel)) rfl
theorem mw_1037 : Cond.fieldLink RX1 28 "FalseName$Image" "sentence" "LFalseName$Sentence;" ∈ GW := wt_5 (List.mem_of_getElem? (i := 233) (by decide +kernel)) rfl
theorem mw_1038 : Cond.fieldLink RX11 356 "FalseName$Image" "sentence" "LFalseName$Sentence;" ∈ GW := wt_5 (List.mem_of_getElem? (i := 234) (by decide +kernel)) rfl
theorem mw_1039 : Cond.laysFinal RX1 "FalseName$Image" "sea" "LFalseName$Sea;" ∈ GW := wt_5 (List.mem_of_getElem? (i := 235) (by decide +kernel)) rfl
theorem mw_1040 : Cond.laysFinal RX1 "FalseName$Image" "her" "LFalseName$Ship;" ∈ GW := wt_5 (List.mem_of_getElem? (i := 237) (by decide +kernel)) rfl
theorem mw_1041 : Cond.laysFinal RX1 "FalseName$Image" "sentence" "LFalseName$Sentence;" ∈ GW := wt_5 (List.mem_of_getElem? (i := 239) (by decide +kernel)) rfl
theorem mw_1042 : Cond.methodLink RL 198 yX11_restore ∈ GW := wt_6 (List.mem_of_getElem? (i := 2) (by decide +kernel)) rfl
theorem mw_1043 : Cond.instanceMethod yX11_restore ∈ GW := wt_6 (List.mem_of_getElem? (i := 3) (by decide +kernel)) rfl
theorem mw_1044 : Cond.selects RX11 yX11_restore yX11_restore ∈ GW := wt_6 (List.mem_of_getElem? (i := 4) (by decide +kernel)) rfl
theorem mw_1045 : Cond.code yX11_restore cX11_restore 3 (some FieldType.boolean) ∈ GW := wt_6 (List.mem_of_getElem? (i := 5) (by decide +kernel)) rfl
theorem mw_1046 : Cond.methodLink RL 45 yL_port ∈ GW := wt_6 (List.mem_of_getElem? (i := 6) (by decide +kernel)) rfl
theorem mw_1047 : Cond.static yL_port ∈ GW := wt_6 (List.mem_of_getElem? (i := 7) (by decide +kernel)) rfl
theorem mw_1048 : Cond.classLink RL 13 "java/util/NoSuchElementException" ∈ GW := wt_6 (List.mem_of_getElem? (i := 9) (by decide +kernel)) rfl
theorem mw_1049 : Cond.methodLink RL 7 yX11_port ∈ GW := wt_6 (List.mem_of_getElem? (i := 10) (by decide +kernel)) rfl
theorem mw_1050 : Cond.instanceMethod yX11_port ∈ GW := wt_6 (List.mem_of_getElem? (i := 11) (by decide +kernel)) rfl
theorem mw_1051 : Cond.selects RX11 yX11_port yX11_port ∈ GW := wt_6 (List.mem_of_getElem? (i := 12) (by decide +kernel)) rfl
theorem mw_1052 : Cond.code yX11_port cX11_port 3 (some FieldType.int) ∈ GW := wt_6 (List.mem_of_getElem? (i := 13) (by decide +kernel)) rfl
theorem mw_1053 : Cond.classLink RX11 208 "java/util/NoSuchElementException" ∈ GW := wt_6 (List.mem_of_getElem? (i := 14) (by decide +kernel)) rfl
theorem mw_1054 : Cond.instantiable "java/util/NoSuchElementException" 6 ∈ GW := wt_6 (List.mem_of_getElem? (i := 15) (by decide +kernel)) rfl
theorem mw_1055 : Cond.selects "java/util/NoSuchElementException" ⟨"java/lang/Throwable", "fillInStackTrace", "(I)Ljava/lang/Throwable;"⟩ ⟨"java/lang/Throwable", "fillInStackTrace", "(I)Ljava/lang/Throwable;"⟩ ∈ GW := wt_6 (List.mem_of_getElem? (i := 23) (by decide +kernel)) rfl
theorem mw_1056 : Cond.selects "java/util/NoSuchElementException" ⟨"java/lang/Throwable", "fillInStackTrace", "()Ljava/lang/Throwable;"⟩ ⟨"java/lang/Throwable", "fillInStackTrace", "()Ljava/lang/Throwable;"⟩ ∈ GW := wt_6 (List.mem_of_getElem? (i := 24) (by decide +kernel)) rfl
theorem mw_1057 : Cond.lays "java/util/NoSuchElementException" "java/lang/Throwable" "cause" "Ljava/lang/Throwable;" ∈ GW := wt_6 (List.mem_of_getElem? (i := 25) (by decide +kernel)) rfl
theorem mw_1058 : Cond.lays "java/lang/Throwable" "java/lang/Throwable" "cause" "Ljava/lang/Throwable;" ∈ GW := wt_6 (List.mem_of_getElem? (i := 26) (by decide +kernel)) rfl
theorem mw_1059 : Cond.lays "java/util/NoSuchElementException" "java/lang/Throwable" "stackTrace" "[Ljava/lang/StackTraceElement;" ∈ GW := wt_6 (List.mem_of_getElem? (i := 27) (by decide +kernel)) rfl
theorem mw_1060 : Cond.lays "java/lang/Throwable" "java/lang/Throwable" "stackTrace" "[Ljava/lang/StackTraceElement;" ∈ GW := wt_6 (List.mem_of_getElem? (i := 28) (by decide +kernel)) rfl
theorem mw_1061 : Cond.lays "java/util/NoSuchElementException" "java/lang/Throwable" "suppressedExceptions" "Ljava/util/List;" ∈ GW := wt_6 (List.mem_of_getElem? (i := 29) (by decide +kernel)) rfl
theorem mw_1062 : Cond.lays "java/lang/Throwable" "java/lang/Throwable" "suppressedExceptions" "Ljava/util/List;" ∈ GW := wt_6 (List.mem_of_getElem? (i := 30) (by decide +kernel)) rfl
theorem mw_1063 : Cond.lays "java/util/NoSuchElementException" "java/lang/Throwable" "detailMessage" "Ljava/lang/String;" ∈ GW := wt_6 (List.mem_of_getElem? (i := 31) (by decide +kernel)) rfl
theorem mw_1064 : Cond.lays "java/lang/Throwable" "java/lang/Throwable" "detailMessage" "Ljava/lang/String;" ∈ GW := wt_6 (List.mem_of_getElem? (i := 32) (by decide +kernel)) rfl
theorem mw_1065 : Cond.lays "java/util/NoSuchElementException" "java/lang/Throwable" "backtrace" "Ljava/lang/Object;" ∈ GW := wt_6 (List.mem_of_getElem? (i := 33) (by decide +kernel)) rfl
theorem mw_1066 : Cond.lays "java/lang/Throwable" "java/lang/Throwable" "backtrace" "Ljava/lang/Object;" ∈ GW := wt_6 (List.mem_of_getElem? (i := 34) (by decide +kernel)) rfl
theorem mw_1067 : Cond.fieldLink "java/lang/Throwable" 198 "java/lang/Throwable" "backtrace" "Ljava/lang/Object;" ∈ GW := wt_6 (List.mem_of_getElem? (i := 35) (by decide +kernel)) rfl
theorem mw_1068 : Cond.instanceMethod ⟨"java/lang/Throwable", "<init>", "()V"⟩ ∈ GW := wt_6 (List.mem_of_getElem? (i := 37) (by decide +kernel)) rfl
theorem mw_1069 : Cond.code ⟨"java/lang/Throwable", "<init>", "()V"⟩ prog_27_method_1_code 1 none ∈ GW := wt_6 (List.mem_of_getElem? (i := 38) (by decide +kernel)) rfl
theorem mw_1070 : Cond.methodLink "java/lang/Throwable" 1 objectInit ∈ GW := wt_6 (List.mem_of_getElem? (i := 39) (by decide +kernel)) rfl
theorem mw_1071 : Cond.fieldLink "java/lang/Throwable" 13 "java/lang/Throwable" "UNASSIGNED_STACK" "[Ljava/lang/StackTraceElement;" ∈ GW := wt_6 (List.mem_of_getElem? (i := 40) (by decide +kernel)) rfl
theorem mw_1072 : Cond.fieldLink "java/lang/Throwable" 20 "java/lang/Throwable" "SUPPRESSED_SENTINEL" "Ljava/util/List;" ∈ GW := wt_6 (List.mem_of_getElem? (i := 42) (by decide +kernel)) rfl
theorem mw_1073 : Cond.methodLink "java/lang/Throwable" 27 ⟨"java/lang/Throwable", "fillInStackTrace", "()Ljava/lang/Throwable;"⟩ ∈ GW := wt_6 (List.mem_of_getElem? (i := 44) (by decide +kernel)) rfl
theorem mw_1074 : Cond.instanceMethod ⟨"java/lang/Throwable", "fillInStackTrace", "()Ljava/lang/Throwable;"⟩ ∈ GW := wt_6 (List.mem_of_getElem? (i := 45) (by decide +kernel)) rfl
theorem mw_1075 : Cond.methodLink "java/lang/Throwable" 202 ⟨"java/lang/Throwable", "fillInStackTrace", "(I)Ljava/lang/Throwable;"⟩ ∈ GW := wt_6 (List.mem_of_getElem? (i := 48) (by decide +kernel)) rfl
theorem mw_1076 : Cond.instanceMethod ⟨"java/lang/Throwable", "fillInStackTrace", "(I)Ljava/lang/Throwable;"⟩ ∈ GW := wt_6 (List.mem_of_getElem? (i := 50) (by decide +kernel)) rfl
theorem mw_1077 : Cond.instantiable "java/lang/Throwable" 6 ∈ GW := wt_6 (List.mem_of_getElem? (i := 51) (by decide +kernel)) rfl
theorem mw_1078 : Cond.native ⟨"java/lang/Throwable", "fillInStackTrace", "(I)Ljava/lang/Throwable;"⟩ ∈ GW := wt_6 (List.mem_of_getElem? (i := 52) (by decide +kernel)) rfl
theorem mw_1079 : Cond.methodLink RX11 210 ⟨"java/util/NoSuchElementException", "<init>", "()V"⟩ ∈ GW := wt_6 (List.mem_of_getElem? (i := 53) (by decide +kernel)) rfl
theorem mw_1080 : Cond.instanceMethod ⟨"java/util/NoSuchElementException", "<init>", "()V"⟩ ∈ GW := wt_6 (List.mem_of_getElem? (i := 54) (by decide +kernel)) rfl
theorem mw_1081 : Cond.code ⟨"java/util/NoSuchElementException", "<init>", "()V"⟩ prog_31_method_1_code 1 none ∈ GW := wt_6 (List.mem_of_getElem? (i := 55) (by decide +kernel)) rfl
theorem mw_1082 : Cond.methodLink "java/util/NoSuchElementException" 1 ⟨"java/lang/RuntimeException", "<init>", "()V"⟩ ∈ GW := wt_6 (List.mem_of_getElem? (i := 56) (by decide +kernel)) rfl
theorem mw_1083 : Cond.instanceMethod ⟨"java/lang/RuntimeException", "<init>", "()V"⟩ ∈ GW := wt_6 (List.mem_of_getElem? (i := 57) (by decide +kernel)) rfl
theorem mw_1084 : Cond.code ⟨"java/lang/RuntimeException", "<init>", "()V"⟩ prog_22_method_1_code 1 none ∈ GW := wt_6 (List.mem_of_getElem? (i := 58) (by decide +kernel)) rfl
theorem mw_1085 : Cond.methodLink "java/lang/RuntimeException" 1 ⟨"java/lang/Exception", "<init>", "()V"⟩ ∈ GW := wt_6 (List.mem_of_getElem? (i := 59) (by decide +kernel)) rfl
theorem mw_1086 : Cond.instanceMethod ⟨"java/lang/Exception", "<init>", "()V"⟩ ∈ GW := wt_6 (List.mem_of_getElem? (i := 60) (by decide +kernel)) rfl
theorem mw_1087 : Cond.code ⟨"java/lang/Exception", "<init>", "()V"⟩ prog_19_method_1_code 1 none ∈ GW := wt_6 (List.mem_of_getElem? (i := 61) (by decide +kernel)) rfl
theorem mw_1088 : Cond.methodLink "java/lang/Exception" 1 ⟨"java/lang/Throwable", "<init>", "()V"⟩ ∈ GW := wt_6 (List.mem_of_getElem? (i := 62) (by decide +kernel)) rfl
theorem mw_1089 : Cond.fieldLink "java/lang/Throwable" 7 "java/lang/Throwable" "cause" "Ljava/lang/Throwable;" ∈ GW := wt_6 (List.mem_of_getElem? (i := 64) (by decide +kernel)) rfl
theorem mw_1090 : Cond.fieldLink "java/lang/Throwable" 17 "java/lang/Throwable" "stackTrace" "[Ljava/lang/StackTraceElement;" ∈ GW := wt_6 (List.mem_of_getElem? (i := 65) (by decide +kernel)) rfl
theorem mw_1091 : Cond.fieldLink "java/lang/Throwable" 24 "java/lang/Throwable" "suppressedExceptions" "Ljava/util/List;" ∈ GW := wt_6 (List.mem_of_getElem? (i := 66) (by decide +kernel)) rfl
theorem mw_1092 : Cond.lays "java/util/NoSuchElementException" "java/lang/Throwable" "depth" "I" ∈ GW := wt_6 (List.mem_of_getElem? (i := 71) (by decide +kernel)) rfl
theorem mw_1093 : Cond.methodLink RX11 211 yX10_namesKnownAt ∈ GW := wt_6 (List.mem_of_getElem? (i := 75) (by decide +kernel)) rfl
theorem mw_1094 : Cond.methodLink RX11 214 yX6_wantedAt ∈ GW := wt_6 (List.mem_of_getElem? (i := 76) (by decide +kernel)) rfl
theorem mw_1095 : Cond.instanceMethod yX6_wantedAt ∈ GW := wt_6 (List.mem_of_getElem? (i := 77) (by decide +kernel)) rfl
theorem mw_1096 : Cond.selects RX6 yX6_wantedAt yX6_wantedAt ∈ GW := wt_6 (List.mem_of_getElem? (i := 78) (by decide +kernel)) rfl
theorem mw_1097 : Cond.code yX6_wantedAt cX6_wantedAt 4 (some FieldType.int) ∈ GW := wt_6 (List.mem_of_getElem? (i := 79) (by decide +kernel)) rfl
theorem mw_1098 : Cond.methodLink RX11 221 yX6_rainsAt ∈ GW := wt_6 (List.mem_of_getElem? (i := 80) (by decide +kernel)) rfl
theorem mw_1099 : Cond.methodLink RX11 224 yX6_waysFrom ∈ GW := wt_6 (List.mem_of_getElem? (i := 81) (by decide +kernel)) rfl
theorem mw_1100 : Cond.instanceMethod yX6_waysFrom ∈ GW := wt_6 (List.mem_of_getElem? (i := 82) (by decide +kernel)) rfl
theorem mw_1101 : Cond.selects RX6 yX6_waysFrom yX6_waysFrom ∈ GW := wt_6 (List.mem_of_getElem? (i := 83) (by decide +kernel)) rfl
theorem mw_1102 : Cond.code yX6_waysFrom cX6_waysFrom 4 (some FieldType.int) ∈ GW := wt_6 (List.mem_of_getElem? (i := 84) (by decide +kernel)) rfl
theorem mw_1103 : Cond.methodLink RX11 227 yX6_mailsTo ∈ GW := wt_6 (List.mem_of_getElem? (i := 85) (by decide +kernel)) rfl
theorem mw_1104 : Cond.instanceMethod yX6_mailsTo ∈ GW := wt_6 (List.mem_of_getElem? (i := 86) (by decide +kernel)) rfl
theorem mw_1105 : Cond.selects RX6 yX6_mailsTo yX6_mailsTo ∈ GW := wt_6 (List.mem_of_getElem? (i := 87) (by decide +kernel)) rfl
theorem mw_1106 : Cond.code yX6_mailsTo cX6_mailsTo 4 (some FieldType.int) ∈ GW := wt_6 (List.mem_of_getElem? (i := 88) (by decide +kernel)) rfl
theorem mw_1107 : Cond.methodLink RL 155 yL_net ∈ GW := wt_6 (List.mem_of_getElem? (i := 89) (by decide +kernel)) rfl
theorem mw_1108 : Cond.static yL_net ∈ GW := wt_6 (List.mem_of_getElem? (i := 90) (by decide +kernel)) rfl
theorem mw_1109 : Cond.methodLink RL 15 yX11_net ∈ GW := wt_6 (List.mem_of_getElem? (i := 92) (by decide +kernel)) rfl
theorem mw_1110 : Cond.instanceMethod yX11_net ∈ GW := wt_6 (List.mem_of_getElem? (i := 93) (by decide +kernel)) rfl
theorem mw_1111 : Cond.selects RX11 yX11_net yX11_net ∈ GW := wt_6 (List.mem_of_getElem? (i := 94) (by decide +kernel)) rfl
theorem mw_1112 : Cond.code yX11_net cX11_net 4 (some FieldType.int) ∈ GW := wt_6 (List.mem_of_getElem? (i := 95) (by decide +kernel)) rfl
theorem mw_1113 : Cond.methodLink RL 159 yL_lasts ∈ GW := wt_6 (List.mem_of_getElem? (i := 96) (by decide +kernel)) rfl
theorem mw_1114 : Cond.static yL_lasts ∈ GW := wt_6 (List.mem_of_getElem? (i := 97) (by decide +kernel)) rfl
theorem mw_1115 : Cond.methodLink RL 19 yX11_lasts ∈ GW := wt_6 (List.mem_of_getElem? (i := 99) (by decide +kernel)) rfl
theorem mw_1116 : Cond.instanceMethod yX11_lasts ∈ GW := wt_6 (List.mem_of_getElem? (i := 100) (by decide +kernel)) rfl
theorem mw_1117 : Cond.selects RX11 yX11_lasts yX11_lasts ∈ GW := wt_6 (List.mem_of_getElem? (i := 101) (by decide +kernel)) rfl
theorem mw_1118 : Cond.code yX11_lasts cX11_lasts 8 (some FieldType.int) ∈ GW := wt_6 (List.mem_of_getElem? (i := 102) (by decide +kernel)) rfl
theorem mw_1119 : Cond.methodLink RX11 275 yX11_greatestDivisor ∈ GW := wt_6 (List.mem_of_getElem? (i := 103) (by decide +kernel)) rfl
theorem mw_1120 : Cond.static yX11_greatestDivisor ∈ GW := wt_6 (List.mem_of_getElem? (i := 104) (by decide +kernel)) rfl
theorem mw_1121 : Cond.code yX11_greatestDivisor cX11_greatestDivisor 3 (some FieldType.int) ∈ GW := wt_6 (List.mem_of_getElem? (i := 105) (by decide +kernel)) rfl
theorem mw_1122 : Cond.methodLink RL 51 yX12_thrown ∈ GW := wt_6 (List.mem_of_getElem? (i := 106) (by decide +kernel)) rfl
theorem mw_1123 : Cond.instanceMethod yX12_thrown ∈ GW := wt_6 (List.mem_of_getElem? (i := 107) (by decide +kernel)) rfl
theorem mw_1124 : Cond.selects RX12 yX12_thrown yX12_thrown ∈ GW := wt_6 (List.mem_of_getElem? (i := 108) (by decide +kernel)) rfl
theorem mw_1125 : Cond.code yX12_thrown cX12_thrown 1 (some FieldType.int) ∈ GW := wt_6 (List.mem_of_getElem? (i := 109) (by decide +kernel)) rfl
theorem mw_1126 : Cond.methodLink RL 30 yX12_feed ∈ GW := wt_6 (List.mem_of_getElem? (i := 110) (by decide +kernel)) rfl
theorem mw_1127 : Cond.instanceMethod yX12_feed ∈ GW := wt_6 (List.mem_of_getElem? (i := 111) (by decide +kernel)) rfl
theorem mw_1128 : Cond.selects RX12 yX12_feed yX12_feed ∈ GW := wt_6 (List.mem_of_getElem? (i := 112) (by decide +kernel)) rfl
theorem mw_1129 : Cond.code yX12_feed cX12_feed 6 (some FieldType.int) ∈ GW := wt_6 (List.mem_of_getElem? (i := 113) (by decide +kernel)) rfl
theorem mw_1130 : Cond.methodLink RX12 10 yX12_four ∈ GW := wt_6 (List.mem_of_getElem? (i := 114) (by decide +kernel)) rfl
theorem mw_1131 : Cond.instanceMethod yX12_four ∈ GW := wt_6 (List.mem_of_getElem? (i := 116) (by decide +kernel)) rfl
theorem mw_1132 : Cond.instantiable RX12 49 ∈ GW := wt_6 (List.mem_of_getElem? (i := 117) (by decide +kernel)) rfl
theorem mw_1133 : Cond.code yX12_four cX12_four 3 none ∈ GW := wt_6 (List.mem_of_getElem? (i := 118) (by decide +kernel)) rfl
theorem mw_1134 : Cond.methodLink RL 35 yX12_end ∈ GW := wt_6 (List.mem_of_getElem? (i := 119) (by decide +kernel)) rfl
theorem mw_1135 : Cond.instanceMethod yX12_end ∈ GW := wt_6 (List.mem_of_getElem? (i := 120) (by decide +kernel)) rfl
theorem mw_1136 : Cond.selects RX12 yX12_end yX12_end ∈ GW := wt_6 (List.mem_of_getElem? (i := 121) (by decide +kernel)) rfl
theorem mw_1137 : Cond.code yX12_end cX12_end 2 (some FieldType.boolean) ∈ GW := wt_6 (List.mem_of_getElem? (i := 122) (by decide +kernel)) rfl
theorem mw_1138 : Cond.classLink RL 23 RX12 ∈ GW := wt_6 (List.mem_of_getElem? (i := 123) (by decide +kernel)) rfl
theorem mw_1139 : Cond.methodLink RL 25 yX12_init ∈ GW := wt_6 (List.mem_of_getElem? (i := 124) (by decide +kernel)) rfl
theorem mw_1140 : Cond.instanceMethod yX12_init ∈ GW := wt_6 (List.mem_of_getElem? (i := 125) (by decide +kernel)) rfl
theorem mw_1141 : Cond.code yX12_init cX12_init 1 none ∈ GW := wt_6 (List.mem_of_getElem? (i := 126) (by decide +kernel)) rfl
theorem mw_1142 : Cond.methodLink RX12 27 objectInit ∈ GW := wt_6 (List.mem_of_getElem? (i := 127) (by decide +kernel)) rfl
theorem mw_1143 : Cond.constantLong RX12 99 (1886351988) ∈ GW := wt_6 (List.mem_of_getElem? (i := 128) (by decide +kernel)) rfl
theorem mw_1144 : Cond.constantLong RX12 101 (7823737) ∈ GW := wt_6 (List.mem_of_getElem? (i := 129) (by decide +kernel)) rfl
theorem mw_1145 : Cond.constantLong RX12 103 (1835100524) ∈ GW := wt_6 (List.mem_of_getElem? (i := 130) (by decide +kernel)) rfl
theorem mw_1146 : Cond.constantLong RX12 105 (1936222576) ∈ GW := wt_6 (List.mem_of_getElem? (i := 131) (by decide +kernel)) rfl
theorem mw_1147 : Cond.constantLong RX12 107 (131260348654948) ∈ GW := wt_6 (List.mem_of_getElem? (i := 132) (by decide +kernel)) rfl
theorem mw_1148 : Cond.constantLong RX12 109 (1870095716) ∈ GW := wt_6 (List.mem_of_getElem? (i := 133) (by decide +kernel)) rfl
theorem mw_1149 : Cond.constantLong RX12 111 (1919904869) ∈ GW := wt_6 (List.mem_of_getElem? (i := 134) (by decide +kernel)) rfl
theorem mw_1150 : Cond.constantLong RX12 113 (474147546227) ∈ GW := wt_6 (List.mem_of_getElem? (i := 135) (by decide +kernel)) rfl
theorem mw_1151 : Cond.constantLong RX12 115 (7168366) ∈ GW := wt_6 (List.mem_of_getElem? (i := 136) (by decide +kernel)) rfl
theorem mw_1152 : Cond.constantLong RX12 117 (1918986606) ∈ GW := wt_6 (List.mem_of_getElem? (i := 137) (by decide +kernel)) rfl
theorem mw_1153 : Cond.constantLong RX12 119 (123563834240884) ∈ GW := wt_6 (List.mem_of_getElem? (i := 138) (by decide +kernel)) rfl
theorem mw_1154 : Cond.constantLong RX12 121 (495555538035) ∈ GW := wt_6 (List.mem_of_getElem? (i := 139) (by decide +kernel)) rfl
theorem mw_1155 : Cond.constantLong RX12 123 (123563682985075) ∈ GW := wt_6 (List.mem_of_getElem? (i := 140) (by decide +kernel)) rfl
theorem mw_1156 : Cond.constantLong RX12 125 (512735409267) ∈ GW := wt_6 (List.mem_of_getElem? (i := 141) (by decide +kernel)) rfl
theorem mw_1157 : Cond.constantLong RX12 127 (499850634611) ∈ GW := wt_6 (List.mem_of_getElem? (i := 142) (by decide +kernel)) rfl
theorem mw_1158 : Cond.constantLong RX12 129 (119182682386035) ∈ GW := wt_6 (List.mem_of_getElem? (i := 143) (by decide +kernel)) rfl
theorem mw_1159 : Cond.constantLong RX12 131 (28530) ∈ GW := wt_6 (List.mem_of_getElem? (i := 144) (by decide +kernel)) rfl
theorem mw_1160 : Cond.constantLong RX12 133 (6385252) ∈ GW := wt_6 (List.mem_of_getElem? (i := 145) (by decide +kernel)) rfl
theorem mw_1161 : Cond.constantLong RX12 135 (7237492) ∈ GW := wt_6 (List.mem_of_getElem? (i := 146) (by decide +kernel)) rfl
theorem mw_1162 : Cond.constantLong RX12 137 (1751478885) ∈ GW := wt_6 (List.mem_of_getElem? (i := 147) (by decide +kernel)) rfl
theorem mw_1163 : Cond.constantLong RX12 139 (1650812270) ∈ GW := wt_6 (List.mem_of_getElem? (i := 148) (by decide +kernel)) rfl
theorem mw_1164 : Cond.constantLong RX12 141 (1935763045) ∈ GW := wt_6 (List.mem_of_getElem? (i := 149) (by decide +kernel)) rfl
theorem mw_1165 : Cond.constantLong RX12 143 (461414299507) ∈ GW := wt_6 (List.mem_of_getElem? (i := 150) (by decide +kernel)) rfl
theorem mw_1166 : Cond.constantLong RX12 145 (448377483891) ∈ GW := wt_6 (List.mem_of_getElem? (i := 151) (by decide +kernel)) rfl
theorem mw_1167 : Cond.constantLong RX12 147 (6709618) ∈ GW := wt_6 (List.mem_of_getElem? (i := 152) (by decide +kernel)) rfl
theorem mw_1168 : Cond.constantLong RX12 149 (474080961907) ∈ GW := wt_6 (List.mem_of_getElem? (i := 153) (by decide +kernel)) rfl
theorem mw_1169 : Cond.constantLong RX12 151 (121450625394034) ∈ GW := wt_6 (List.mem_of_getElem? (i := 154) (by decide +kernel)) rfl
theorem mw_1170 : Cond.methodLink RX12 153 yX12_begins ∈ GW := wt_6 (List.mem_of_getElem? (i := 155) (by decide +kernel)) rfl
theorem mw_1171 : Cond.instanceMethod yX12_begins ∈ GW := wt_6 (List.mem_of_getElem? (i := 157) (by decide +kernel)) rfl
theorem mw_1172 : Cond.code yX12_begins cX12_begins 2 none ∈ GW := wt_6 (List.mem_of_getElem? (i := 158) (by decide +kernel)) rfl
theorem mw_1173 : Cond.methodLink RX12 271 yX12_isSea ∈ GW := wt_6 (List.mem_of_getElem? (i := 159) (by decide +kernel)) rfl
theorem mw_1174 : Cond.instanceMethod yX12_isSea ∈ GW := wt_6 (List.mem_of_getElem? (i := 161) (by decide +kernel)) rfl
theorem mw_1175 : Cond.code yX12_isSea cX12_isSea 1 (some FieldType.boolean) ∈ GW := wt_6 (List.mem_of_getElem? (i := 162) (by decide +kernel)) rfl
theorem mw_1176 : Cond.methodLink RX12 274 yX12_waysOf ∈ GW := wt_6 (List.mem_of_getElem? (i := 163) (by decide +kernel)) rfl
theorem mw_1177 : Cond.instanceMethod yX12_waysOf ∈ GW := wt_6 (List.mem_of_getElem? (i := 165) (by decide +kernel)) rfl
theorem mw_1178 : Cond.code yX12_waysOf cX12_waysOf 6 none ∈ GW := wt_6 (List.mem_of_getElem? (i := 166) (by decide +kernel)) rfl
theorem mw_1179 : Cond.constant RX12 278 (1000000) ∈ GW := wt_6 (List.mem_of_getElem? (i := 167) (by decide +kernel)) rfl
theorem mw_1180 : Cond.methodLink RX12 279 yX12_cell ∈ GW := wt_6 (List.mem_of_getElem? (i := 168) (by decide +kernel)) rfl
theorem mw_1181 : Cond.static yX12_cell ∈ GW := wt_6 (List.mem_of_getElem? (i := 169) (by decide +kernel)) rfl
theorem mw_1182 : Cond.code yX12_cell cX12_cell 2 (some FieldType.int) ∈ GW := wt_6 (List.mem_of_getElem? (i := 170) (by decide +kernel)) rfl
theorem mw_1183 : Cond.methodLink RX12 282 yX12_lesser ∈ GW := wt_6 (List.mem_of_getElem? (i := 171) (by decide +kernel)) rfl
theorem mw_1184 : Cond.static yX12_lesser ∈ GW := wt_6 (List.mem_of_getElem? (i := 172) (by decide +kernel)) rfl
theorem mw_1185 : Cond.code yX12_lesser cX12_lesser 2 (some FieldType.int) ∈ GW := wt_6 (List.mem_of_getElem? (i := 173) (by decide +kernel)) rfl
theorem mw_1186 : Cond.fieldLink RX12 1 "FalseNameModel" "thrown" "I" ∈ GW := wt_6 (List.mem_of_getElem? (i := 174) (by decide +kernel)) rfl
theorem mw_1187 : Cond.fieldLink RX12 14 "FalseNameModel" "tape" "[B" ∈ GW := wt_6 (List.mem_of_getElem? (i := 175) (by decide +kernel)) rfl
theorem mw_1188 : Cond.fieldLink RX12 7 "FalseNameModel" "length" "I" ∈ GW := wt_6 (List.mem_of_getElem? (i := 176) (by decide +kernel)) rfl
theorem mw_1189 : Cond.fieldLink RX12 18 "FalseNameModel" "size" "I" ∈ GW := wt_6 (List.mem_of_getElem? (i := 177) (by decide +kernel)) rfl
theorem mw_1190 : Cond.fieldLink RX12 21 "FalseNameModel" "p" "I" ∈ GW := wt_6 (List.mem_of_getElem? (i := 178) (by decide +kernel)) rfl
theorem mw_1191 : Cond.fieldLink RX12 24 "FalseNameModel" "limit" "I" ∈ GW := wt_6 (List.mem_of_getElem? (i := 179) (by decide +kernel)) rfl
theorem mw_1192 : Cond.fieldLink RX12 33 "FalseNameModel" "s" "[I" ∈ GW := wt_6 (List.mem_of_getElem? (i := 180) (by decide +kernel)) rfl
theorem mw_1193 : Cond.fieldLink RX12 37 "FalseNameModel" "h" "[I" ∈ GW := wt_6 (List.mem_of_getElem? (i := 181) (by decide +kernel)) rfl
theorem mw_1194 : Cond.fieldLink RX12 40 "FalseNameModel" "read" "[I" ∈ GW := wt_6 (List.mem_of_getElem? (i := 182) (by decide +kernel)) rfl
theorem mw_1195 : Cond.fieldLink RX12 43 "FalseNameModel" "names" "[J" ∈ GW := wt_6 (List.mem_of_getElem? (i := 183) (by decide +kernel)) rfl
theorem mw_1196 : Cond.fieldLink RX12 47 "FalseNameModel" "reserved" "[J" ∈ GW := wt_6 (List.mem_of_getElem? (i := 184) (by decide +kernel)) rfl
theorem mw_1197 : Cond.fieldLink RX12 166 "FalseNameModel" "token" "I" ∈ GW := wt_6 (List.mem_of_getElem? (i := 185) (by decide +kernel)) rfl
theorem mw_1198 : Cond.fieldLink RX12 160 "FalseNameModel" "at" "I" ∈ GW := wt_6 (List.mem_of_getElem? (i := 186) (by decide +kernel)) rfl
theorem mw_1199 : Cond.fieldLink RX12 163 "FalseNameModel" "span" "I" ∈ GW := wt_6 (List.mem_of_getElem? (i := 187) (by decide +kernel)) rfl
theorem mw_1200 : Cond.fieldLink RX12 176 "FalseNameModel" "number" "I" ∈ GW := wt_6 (List.mem_of_getElem? (i := 188) (by decide +kernel)) rfl
theorem mw_1201 : Cond.fieldLink RX12 183 "FalseNameModel" "fault" "I" ∈ GW := wt_6 (List.mem_of_getElem? (i := 189) (by decide +kernel)) rfl
theorem mw_1202 : Cond.fieldLink RX12 186 "FalseNameModel" "faultAt" "I" ∈ GW := wt_6 (List.mem_of_getElem? (i := 190) (by decide +kernel)) rfl
theorem mw_1203 : Cond.fieldLink RX12 179 "FalseNameModel" "word" "J" ∈ GW := wt_6 (List.mem_of_getElem? (i := 191) (by decide +kernel)) rfl
theorem mw_1204 : Cond.fieldLink RX12 202 "FalseNameModel" "got" "I" ∈ GW := wt_6 (List.mem_of_getElem? (i := 192) (by decide +kernel)) rfl
theorem mw_1205 : Cond.fieldLink RX12 259 "FalseNameModel" "lines" "I" ∈ GW := wt_6 (List.mem_of_getElem? (i := 193) (by decide +kernel)) rfl
theorem mw_1206 : Cond.fieldLink RX12 246 "FalseNameModel" "hasParrot" "Z" ∈ GW := wt_6 (List.mem_of_getElem? (i := 194) (by decide +kernel)) rfl
theorem mw_1207 : Cond.fieldLink RX12 50 "FalseNameModel" "far" "[I" ∈ GW := wt_6 (List.mem_of_getElem? (i := 195) (by decide +kernel)) rfl
theorem mw_1208 : Cond.fieldLink RX12 53 "FalseNameModel" "post" "[I" ∈ GW := wt_6 (List.mem_of_getElem? (i := 196) (by decide +kernel)) rfl
theorem mw_1209 : Cond.fieldLink RX12 56 "FalseNameModel" "cast" "[I" ∈ GW := wt_6 (List.mem_of_getElem? (i := 197) (by decide +kernel)) rfl
theorem mw_1210 : Cond.fieldLink RX12 59 "FalseNameModel" "needed" "[I" ∈ GW := wt_6 (List.mem_of_getElem? (i := 198) (by decide +kernel)) rfl
theorem mw_1211 : Cond.fieldLink RX12 62 "FalseNameModel" "fewest" "[I" ∈ GW := wt_6 (List.mem_of_getElem? (i := 199) (by decide +kernel)) rfl
theorem mw_1212 : Cond.fieldLink RX12 311 "FalseNameModel" "parts" "I" ∈ GW := wt_6 (List.mem_of_getElem? (i := 200) (by decide +kernel)) rfl
theorem mw_1213 : Cond.fieldLink RX12 65 "FalseNameModel" "undone" "[I" ∈ GW := wt_6 (List.mem_of_getElem? (i := 201) (by decide +kernel)) rfl
theorem mw_1214 : Cond.fieldLink RX12 68 "FalseNameModel" "before" "[I" ∈ GW := wt_6 (List.mem_of_getElem? (i := 202) (by decide +kernel)) rfl
theorem mw_1215 : Cond.fieldLink RX12 268 "FalseNameModel" "undoMany" "I" ∈ GW := wt_6 (List.mem_of_getElem? (i := 203) (by decide +kernel)) rfl
theorem mw_1216 : Cond.fieldLink RX12 71 "FalseNameModel" "given" "[I" ∈ GW := wt_6 (List.mem_of_getElem? (i := 204) (by decide +kernel)) rfl
theorem mw_1217 : Cond.fieldLink RX12 74 "FalseNameModel" "most" "[I" ∈ GW := wt_6 (List.mem_of_getElem? (i := 205) (by decide +kernel)) rfl
theorem mw_1218 : Cond.fieldLink RX12 77 "FalseNameModel" "mostThen" "[I" ∈ GW := wt_6 (List.mem_of_getElem? (i := 206) (by decide +kernel)) rfl
theorem mw_1219 : Cond.fieldLink RX12 403 "FalseNameModel" "soonestDay" "I" ∈ GW := wt_6 (List.mem_of_getElem? (i := 207) (by decide +kernel)) rfl
theorem mw_1220 : Cond.fieldLink RX12 406 "FalseNameModel" "soonestPort" "I" ∈ GW := wt_6 (List.mem_of_getElem? (i := 208) (by decide +kernel)) rfl
theorem mw_1221 : Cond.fieldLink RX12 412 "FalseNameModel" "seed" "I" ∈ GW := wt_6 (List.mem_of_getElem? (i := 209) (by decide +kernel)) rfl
theorem mw_1222 : Cond.fieldLink RX12 428 "FalseNameModel" "toldMany" "I" ∈ GW := wt_6 (List.mem_of_getElem? (i := 210) (by decide +kernel)) rfl
theorem mw_1223 : Cond.fieldLink RX12 80 "FalseNameModel" "loggedAt" "[I" ∈ GW := wt_6 (List.mem_of_getElem? (i := 211) (by decide +kernel)) rfl
theorem mw_1224 : Cond.fieldLink RX12 437 "FalseNameModel" "hasLogged" "Z" ∈ GW := wt_6 (List.mem_of_getElem? (i := 212) (by decide +kernel)) rfl
theorem mw_1225 : Cond.fieldLink RX12 83 "FalseNameModel" "stack" "[I" ∈ GW := wt_6 (List.mem_of_getElem? (i := 213) (by decide +kernel)) rfl
theorem mw_1226 : Cond.fieldLink RX12 440 "FalseNameModel" "codes" "I" ∈ GW := wt_6 (List.mem_of_getElem? (i := 214) (by decide +kernel)) rfl
theorem mw_1227 : Cond.fieldLink RX12 455 "FalseNameModel" "ones" "I" ∈ GW := wt_6 (List.mem_of_getElem? (i := 215) (by decide +kernel)) rfl
theorem mw_1228 : Cond.fieldLink RX12 443 "FalseNameModel" "top" "I" ∈ GW := wt_6 (List.mem_of_getElem? (i := 216) (by decide +kernel)) rfl
theorem mw_1229 : Cond.fieldLink RX12 449 "FalseNameModel" "deep" "I" ∈ GW := wt_6 (List.mem_of_getElem? (i := 217) (by decide +kernel)) rfl
theorem mw_1230 : Cond.fieldLink RX12 458 "FalseNameModel" "isWhole" "Z" ∈ GW := wt_6 (List.mem_of_getElem? (i := 218) (by decide +kernel)) rfl
theorem mw_1231 : Cond.fieldLink RX12 86 "FalseNameModel" "truths" "[Z" ∈ GW := wt_6 (List.mem_of_getElem? (i := 219) (by decide +kernel)) rfl
theorem mw_1232 : Cond.fieldLink RX12 90 "FalseNameModel" "kept" "[I" ∈ GW := wt_6 (List.mem_of_getElem? (i := 220) (by decide +kernel)) rfl
theorem mw_1233 : Cond.fieldLink RX12 93 "FalseNameModel" "namesKept" "[J" ∈ GW := wt_6 (List.mem_of_getElem? (i := 221) (by decide +kernel)) rfl
theorem mw_1234 : Cond.fieldLink RX12 96 "FalseNameModel" "areKept" "[Z" ∈ GW := wt_6 (List.mem_of_getElem? (i := 222) (by decide +kernel)) rfl
theorem mw_1235 : Cond.lays RX12 "FalseNameModel" "thrown" "I" ∈ GW := wt_6 (List.mem_of_getElem? (i := 223) (by decide +kernel)) rfl
theorem mw_1236 : Cond.laysFinal RX12 "FalseNameModel" "tape" "[B" ∈ GW := wt_6 (List.mem_of_getElem? (i := 225) (by decide +kernel)) rfl
theorem mw_1237 : Cond.lays RX12 "FalseNameModel" "length" "I" ∈ GW := wt_6 (List.mem_of_getElem? (i := 227) (by decide +kernel)) rfl
theorem mw_1238 : Cond.lays RX12 "FalseNameModel" "size" "I" ∈ GW := wt_6 (List.mem_of_getElem? (i := 229) (by decide +kernel)) rfl
theorem mw_1239 : Cond.lays RX12 "FalseNameModel" "p" "I" ∈ GW := wt_6 (List.mem_of_getElem? (i := 231) (by decide +kernel)) rfl
theorem mw_1240 : Cond.lays RX12 "FalseNameModel" "limit" "I" ∈ GW := wt_6 (List.mem_of_getElem? (i := 233) (by decide +kernel)) rfl
theorem mw_1241 : Cond.laysFinal RX12 "FalseNameModel" "s" "[I" ∈ GW := wt_6 (List.mem_of_getElem? (i := 235) (by decide +kernel)) rfl
theorem mw_1242 : Cond.laysFinal RX12 "FalseNameModel" "h" "[I" ∈ GW := wt_6 (List.mem_of_getElem? (i := 237) (by decide +kernel)) rfl
theorem mw_1243 : Cond.laysFinal RX12 "FalseNameModel" "read" "[I" ∈ GW := wt_6 (List.mem_of_getElem? (i := 239) (by decide +kernel)) rfl
theorem mw_1244 : Cond.laysFinal RX12 "FalseNameModel" "names" "[J" ∈ GW := wt_7 (List.mem_of_getElem? (i := 1) (by decide +kernel)) rfl
theorem mw_1245 : Cond.laysFinal RX12 "FalseNameModel" "reserved" "[J" ∈ GW := wt_7 (List.mem_of_getElem? (i := 3) (by decide +kernel)) rfl
theorem mw_1246 : Cond.lays RX12 "FalseNameModel" "token" "I" ∈ GW := wt_7 (List.mem_of_getElem? (i := 5) (by decide +kernel)) rfl
theorem mw_1247 : Cond.lays RX12 "FalseNameModel" "at" "I" ∈ GW := wt_7 (List.mem_of_getElem? (i := 7) (by decide +kernel)) rfl
theorem mw_1248 : Cond.lays RX12 "FalseNameModel" "span" "I" ∈ GW := wt_7 (List.mem_of_getElem? (i := 9) (by decide +kernel)) rfl
theorem mw_1249 : Cond.lays RX12 "FalseNameModel" "number" "I" ∈ GW := wt_7 (List.mem_of_getElem? (i := 11) (by decide +kernel)) rfl
theorem mw_1250 : Cond.lays RX12 "FalseNameModel" "fault" "I" ∈ GW := wt_7 (List.mem_of_getElem? (i := 13) (by decide +kernel)) rfl
theorem mw_1251 : Cond.lays RX12 "FalseNameModel" "faultAt" "I" ∈ GW := wt_7 (List.mem_of_getElem? (i := 15) (by decide +kernel)) rfl
theorem mw_1252 : Cond.lays RX12 "FalseNameModel" "word" "J" ∈ GW := wt_7 (List.mem_of_getElem? (i := 17) (by decide +kernel)) rfl
theorem mw_1253 : Cond.lays RX12 "FalseNameModel" "got" "I" ∈ GW := wt_7 (List.mem_of_getElem? (i := 19) (by decide +kernel)) rfl
theorem mw_1254 : Cond.lays RX12 "FalseNameModel" "lines" "I" ∈ GW := wt_7 (List.mem_of_getElem? (i := 21) (by decide +kernel)) rfl
theorem mw_1255 : Cond.lays RX12 "FalseNameModel" "hasParrot" "Z" ∈ GW := wt_7 (List.mem_of_getElem? (i := 23) (by decide +kernel)) rfl
theorem mw_1256 : Cond.laysFinal RX12 "FalseNameModel" "far" "[I" ∈ GW := wt_7 (List.mem_of_getElem? (i := 25) (by decide +kernel)) rfl
theorem mw_1257 : Cond.laysFinal RX12 "FalseNameModel" "post" "[I" ∈ GW := wt_7 (List.mem_of_getElem? (i := 27) (by decide +kernel)) rfl
theorem mw_1258 : Cond.laysFinal RX12 "FalseNameModel" "cast" "[I" ∈ GW := wt_7 (List.mem_of_getElem? (i := 29) (by decide +kernel)) rfl
theorem mw_1259 : Cond.laysFinal RX12 "FalseNameModel" "needed" "[I" ∈ GW := wt_7 (List.mem_of_getElem? (i := 31) (by decide +kernel)) rfl
theorem mw_1260 : Cond.laysFinal RX12 "FalseNameModel" "fewest" "[I" ∈ GW := wt_7 (List.mem_of_getElem? (i := 33) (by decide +kernel)) rfl
theorem mw_1261 : Cond.lays RX12 "FalseNameModel" "parts" "I" ∈ GW := wt_7 (List.mem_of_getElem? (i := 35) (by decide +kernel)) rfl
theorem mw_1262 : Cond.laysFinal RX12 "FalseNameModel" "undone" "[I" ∈ GW := wt_7 (List.mem_of_getElem? (i := 37) (by decide +kernel)) rfl
theorem mw_1263 : Cond.laysFinal RX12 "FalseNameModel" "before" "[I" ∈ GW := wt_7 (List.mem_of_getElem? (i := 39) (by decide +kernel)) rfl
theorem mw_1264 : Cond.lays RX12 "FalseNameModel" "undoMany" "I" ∈ GW := wt_7 (List.mem_of_getElem? (i := 41) (by decide +kernel)) rfl
theorem mw_1265 : Cond.laysFinal RX12 "FalseNameModel" "given" "[I" ∈ GW := wt_7 (List.mem_of_getElem? (i := 43) (by decide +kernel)) rfl
theorem mw_1266 : Cond.laysFinal RX12 "FalseNameModel" "most" "[I" ∈ GW := wt_7 (List.mem_of_getElem? (i := 45) (by decide +kernel)) rfl
theorem mw_1267 : Cond.laysFinal RX12 "FalseNameModel" "mostThen" "[I" ∈ GW := wt_7 (List.mem_of_getElem? (i := 47) (by decide +kernel)) rfl
theorem mw_1268 : Cond.lays RX12 "FalseNameModel" "soonestDay" "I" ∈ GW := wt_7 (List.mem_of_getElem? (i := 49) (by decide +kernel)) rfl
theorem mw_1269 : Cond.lays RX12 "FalseNameModel" "soonestPort" "I" ∈ GW := wt_7 (List.mem_of_getElem? (i := 51) (by decide +kernel)) rfl
theorem mw_1270 : Cond.lays RX12 "FalseNameModel" "seed" "I" ∈ GW := wt_7 (List.mem_of_getElem? (i := 53) (by decide +kernel)) rfl
theorem mw_1271 : Cond.lays RX12 "FalseNameModel" "toldMany" "I" ∈ GW := wt_7 (List.mem_of_getElem? (i := 55) (by decide +kernel)) rfl
theorem mw_1272 : Cond.laysFinal RX12 "FalseNameModel" "loggedAt" "[I" ∈ GW := wt_7 (List.mem_of_getElem? (i := 57) (by decide +kernel)) rfl
theorem mw_1273 : Cond.lays RX12 "FalseNameModel" "hasLogged" "Z" ∈ GW := wt_7 (List.mem_of_getElem? (i := 59) (by decide +kernel)) rfl
theorem mw_1274 : Cond.laysFinal RX12 "FalseNameModel" "stack" "[I" ∈ GW := wt_7 (List.mem_of_getElem? (i := 61) (by decide +kernel)) rfl
theorem mw_1275 : Cond.lays RX12 "FalseNameModel" "codes" "I" ∈ GW := wt_7 (List.mem_of_getElem? (i := 63) (by decide +kernel)) rfl
theorem mw_1276 : Cond.lays RX12 "FalseNameModel" "ones" "I" ∈ GW := wt_7 (List.mem_of_getElem? (i := 65) (by decide +kernel)) rfl
theorem mw_1277 : Cond.lays RX12 "FalseNameModel" "top" "I" ∈ GW := wt_7 (List.mem_of_getElem? (i := 67) (by decide +kernel)) rfl
theorem mw_1278 : Cond.lays RX12 "FalseNameModel" "deep" "I" ∈ GW := wt_7 (List.mem_of_getElem? (i := 69) (by decide +kernel)) rfl
theorem mw_1279 : Cond.lays RX12 "FalseNameModel" "isWhole" "Z" ∈ GW := wt_7 (List.mem_of_getElem? (i := 71) (by decide +kernel)) rfl
theorem mw_1280 : Cond.laysFinal RX12 "FalseNameModel" "truths" "[Z" ∈ GW := wt_7 (List.mem_of_getElem? (i := 73) (by decide +kernel)) rfl
theorem mw_1281 : Cond.laysFinal RX12 "FalseNameModel" "kept" "[I" ∈ GW := wt_7 (List.mem_of_getElem? (i := 75) (by decide +kernel)) rfl
theorem mw_1282 : Cond.laysFinal RX12 "FalseNameModel" "namesKept" "[J" ∈ GW := wt_7 (List.mem_of_getElem? (i := 77) (by decide +kernel)) rfl
theorem mw_1283 : Cond.laysFinal RX12 "FalseNameModel" "areKept" "[Z" ∈ GW := wt_7 (List.mem_of_getElem? (i := 79) (by decide +kernel)) rfl
theorem mw_1284 : Cond.arrayClass FieldType.boolean ∈ GW := wt_7 (List.mem_of_getElem? (i := 82) (by decide +kernel)) rfl
theorem mw_1285 : Cond.methodLink RL 40 yX12_sea ∈ GW := wt_7 (List.mem_of_getElem? (i := 83) (by decide +kernel)) rfl
theorem mw_1286 : Cond.instanceMethod yX12_sea ∈ GW := wt_7 (List.mem_of_getElem? (i := 84) (by decide +kernel)) rfl
theorem mw_1287 : Cond.selects RX12 yX12_sea yX12_sea ∈ GW := wt_7 (List.mem_of_getElem? (i := 85) (by decide +kernel)) rfl
theorem mw_1288 : Cond.code yX12_sea cX12_sea 2 (some FieldType.int) ∈ GW := wt_7 (List.mem_of_getElem? (i := 86) (by decide +kernel)) rfl
theorem mw_1289 : Cond.methodLink RX12 256 yX12_taken ∈ GW := wt_7 (List.mem_of_getElem? (i := 87) (by decide +kernel)) rfl
theorem mw_1290 : Cond.instanceMethod yX12_taken ∈ GW := wt_7 (List.mem_of_getElem? (i := 89) (by decide +kernel)) rfl
theorem mw_1291 : Cond.code yX12_taken cX12_taken 2 none ∈ GW := wt_7 (List.mem_of_getElem? (i := 90) (by decide +kernel)) rfl
theorem mw_1292 : Cond.methodLink RX12 195 yX12_next ∈ GW := wt_7 (List.mem_of_getElem? (i := 91) (by decide +kernel)) rfl
theorem mw_1293 : Cond.instanceMethod yX12_next ∈ GW := wt_7 (List.mem_of_getElem? (i := 93) (by decide +kernel)) rfl
theorem mw_1294 : Cond.code yX12_next cX12_next 4 none ∈ GW := wt_7 (List.mem_of_getElem? (i := 94) (by decide +kernel)) rfl
theorem mw_1295 : Cond.methodLink RX12 156 yX12_peek ∈ GW := wt_7 (List.mem_of_getElem? (i := 95) (by decide +kernel)) rfl
theorem mw_1296 : Cond.instanceMethod yX12_peek ∈ GW := wt_7 (List.mem_of_getElem? (i := 97) (by decide +kernel)) rfl
theorem mw_1297 : Cond.code yX12_peek cX12_peek 1 (some FieldType.int) ∈ GW := wt_7 (List.mem_of_getElem? (i := 98) (by decide +kernel)) rfl
theorem mw_1298 : Cond.methodLink RX12 169 yX12_isSmall ∈ GW := wt_7 (List.mem_of_getElem? (i := 99) (by decide +kernel)) rfl
theorem mw_1299 : Cond.static yX12_isSmall ∈ GW := wt_7 (List.mem_of_getElem? (i := 100) (by decide +kernel)) rfl
theorem mw_1300 : Cond.code yX12_isSmall cX12_isSmall 1 (some FieldType.boolean) ∈ GW := wt_7 (List.mem_of_getElem? (i := 101) (by decide +kernel)) rfl
theorem mw_1301 : Cond.methodLink RX12 173 yX12_isDigit ∈ GW := wt_7 (List.mem_of_getElem? (i := 102) (by decide +kernel)) rfl
theorem mw_1302 : Cond.static yX12_isDigit ∈ GW := wt_7 (List.mem_of_getElem? (i := 103) (by decide +kernel)) rfl
theorem mw_1303 : Cond.code yX12_isDigit cX12_isDigit 1 (some FieldType.boolean) ∈ GW := wt_7 (List.mem_of_getElem? (i := 104) (by decide +kernel)) rfl
theorem mw_1304 : Cond.methodLink RX12 262 yX12_line ∈ GW := wt_7 (List.mem_of_getElem? (i := 105) (by decide +kernel)) rfl
theorem mw_1305 : Cond.instanceMethod yX12_line ∈ GW := wt_7 (List.mem_of_getElem? (i := 107) (by decide +kernel)) rfl
theorem mw_1306 : Cond.code yX12_line cX12_line 2 (some FieldType.boolean) ∈ GW := wt_7 (List.mem_of_getElem? (i := 108) (by decide +kernel)) rfl
theorem mw_1307 : Cond.methodLink RX12 220 yX12_isWord ∈ GW := wt_7 (List.mem_of_getElem? (i := 109) (by decide +kernel)) rfl
theorem mw_1308 : Cond.instanceMethod yX12_isWord ∈ GW := wt_7 (List.mem_of_getElem? (i := 111) (by decide +kernel)) rfl
theorem mw_1309 : Cond.code yX12_isWord cX12_isWord 3 (some FieldType.boolean) ∈ GW := wt_7 (List.mem_of_getElem? (i := 112) (by decide +kernel)) rfl
theorem mw_1310 : Cond.methodLink RX12 224 yX12_tells ∈ GW := wt_7 (List.mem_of_getElem? (i := 113) (by decide +kernel)) rfl
theorem mw_1311 : Cond.instanceMethod yX12_tells ∈ GW := wt_7 (List.mem_of_getElem? (i := 115) (by decide +kernel)) rfl
theorem mw_1312 : Cond.code yX12_tells cX12_tells 4 (some FieldType.boolean) ∈ GW := wt_7 (List.mem_of_getElem? (i := 116) (by decide +kernel)) rfl
theorem mw_1313 : Cond.methodLink RX12 192 yX12_bad ∈ GW := wt_7 (List.mem_of_getElem? (i := 117) (by decide +kernel)) rfl
theorem mw_1314 : Cond.instanceMethod yX12_bad ∈ GW := wt_7 (List.mem_of_getElem? (i := 119) (by decide +kernel)) rfl
theorem mw_1315 : Cond.code yX12_bad cX12_bad 2 (some FieldType.boolean) ∈ GW := wt_7 (List.mem_of_getElem? (i := 120) (by decide +kernel)) rfl
theorem mw_1316 : Cond.methodLink RX12 217 yX12_fresh ∈ GW := wt_7 (List.mem_of_getElem? (i := 121) (by decide +kernel)) rfl
theorem mw_1317 : Cond.instanceMethod yX12_fresh ∈ GW := wt_7 (List.mem_of_getElem? (i := 123) (by decide +kernel)) rfl
theorem mw_1318 : Cond.code yX12_fresh cX12_fresh 2 (some FieldType.boolean) ∈ GW := wt_7 (List.mem_of_getElem? (i := 124) (by decide +kernel)) rfl
theorem mw_1319 : Cond.methodLink RX12 205 yX12_isName ∈ GW := wt_7 (List.mem_of_getElem? (i := 125) (by decide +kernel)) rfl
theorem mw_1320 : Cond.instanceMethod yX12_isName ∈ GW := wt_7 (List.mem_of_getElem? (i := 127) (by decide +kernel)) rfl
theorem mw_1321 : Cond.code yX12_isName cX12_isName 3 (some FieldType.boolean) ∈ GW := wt_7 (List.mem_of_getElem? (i := 128) (by decide +kernel)) rfl
theorem mw_1322 : Cond.methodLink RX12 209 yX12_find ∈ GW := wt_7 (List.mem_of_getElem? (i := 129) (by decide +kernel)) rfl
theorem mw_1323 : Cond.instanceMethod yX12_find ∈ GW := wt_7 (List.mem_of_getElem? (i := 131) (by decide +kernel)) rfl
theorem mw_1324 : Cond.code yX12_find cX12_find 4 (some FieldType.int) ∈ GW := wt_7 (List.mem_of_getElem? (i := 132) (by decide +kernel)) rfl
theorem mw_1325 : Cond.methodLink RX12 227 yX12_readWay ∈ GW := wt_7 (List.mem_of_getElem? (i := 133) (by decide +kernel)) rfl
theorem mw_1326 : Cond.instanceMethod yX12_readWay ∈ GW := wt_7 (List.mem_of_getElem? (i := 135) (by decide +kernel)) rfl
theorem mw_1327 : Cond.code yX12_readWay cX12_readWay 7 (some FieldType.boolean) ∈ GW := wt_7 (List.mem_of_getElem? (i := 136) (by decide +kernel)) rfl
theorem mw_1328 : Cond.methodLink RX12 240 yX12_takesName ∈ GW := wt_7 (List.mem_of_getElem? (i := 137) (by decide +kernel)) rfl
theorem mw_1329 : Cond.instanceMethod yX12_takesName ∈ GW := wt_7 (List.mem_of_getElem? (i := 139) (by decide +kernel)) rfl
theorem mw_1330 : Cond.code yX12_takesName cX12_takesName 3 (some FieldType.boolean) ∈ GW := wt_7 (List.mem_of_getElem? (i := 140) (by decide +kernel)) rfl
theorem mw_1331 : Cond.methodLink RX12 213 yX12_looksAt ∈ GW := wt_7 (List.mem_of_getElem? (i := 141) (by decide +kernel)) rfl
theorem mw_1332 : Cond.instanceMethod yX12_looksAt ∈ GW := wt_7 (List.mem_of_getElem? (i := 143) (by decide +kernel)) rfl
theorem mw_1333 : Cond.code yX12_looksAt cX12_looksAt 3 (some FieldType.boolean) ∈ GW := wt_7 (List.mem_of_getElem? (i := 144) (by decide +kernel)) rfl
theorem mw_1334 : Cond.methodLink RX12 250 yX12_takes ∈ GW := wt_7 (List.mem_of_getElem? (i := 145) (by decide +kernel)) rfl
theorem mw_1335 : Cond.instanceMethod yX12_takes ∈ GW := wt_7 (List.mem_of_getElem? (i := 147) (by decide +kernel)) rfl
theorem mw_1336 : Cond.code yX12_takes cX12_takes 3 (some FieldType.boolean) ∈ GW := wt_7 (List.mem_of_getElem? (i := 148) (by decide +kernel)) rfl
theorem mw_1337 : Cond.methodLink RX12 198 yX12_isIn ∈ GW := wt_7 (List.mem_of_getElem? (i := 149) (by decide +kernel)) rfl
theorem mw_1338 : Cond.static yX12_isIn ∈ GW := wt_7 (List.mem_of_getElem? (i := 150) (by decide +kernel)) rfl
theorem mw_1339 : Cond.code yX12_isIn cX12_isIn 3 (some FieldType.boolean) ∈ GW := wt_7 (List.mem_of_getElem? (i := 151) (by decide +kernel)) rfl
theorem mw_1340 : Cond.methodLink RX12 231 yX12_readPrice ∈ GW := wt_7 (List.mem_of_getElem? (i := 152) (by decide +kernel)) rfl
theorem mw_1341 : Cond.instanceMethod yX12_readPrice ∈ GW := wt_7 (List.mem_of_getElem? (i := 154) (by decide +kernel)) rfl
theorem mw_1342 : Cond.code yX12_readPrice cX12_readPrice 4 (some FieldType.boolean) ∈ GW := wt_7 (List.mem_of_getElem? (i := 155) (by decide +kernel)) rfl
theorem mw_1343 : Cond.methodLink RX12 234 yX12_readMan ∈ GW := wt_7 (List.mem_of_getElem? (i := 156) (by decide +kernel)) rfl
theorem mw_1344 : Cond.instanceMethod yX12_readMan ∈ GW := wt_7 (List.mem_of_getElem? (i := 158) (by decide +kernel)) rfl
theorem mw_1345 : Cond.code yX12_readMan cX12_readMan 2 (some FieldType.boolean) ∈ GW := wt_7 (List.mem_of_getElem? (i := 159) (by decide +kernel)) rfl
theorem mw_1346 : Cond.methodLink RX12 189 yX12_isSign ∈ GW := wt_7 (List.mem_of_getElem? (i := 160) (by decide +kernel)) rfl
theorem mw_1347 : Cond.instanceMethod yX12_isSign ∈ GW := wt_7 (List.mem_of_getElem? (i := 162) (by decide +kernel)) rfl
theorem mw_1348 : Cond.code yX12_isSign cX12_isSign 2 (some FieldType.boolean) ∈ GW := wt_7 (List.mem_of_getElem? (i := 163) (by decide +kernel)) rfl
theorem mw_1349 : Cond.methodLink RX12 243 yX12_takesRole ∈ GW := wt_7 (List.mem_of_getElem? (i := 164) (by decide +kernel)) rfl
theorem mw_1350 : Cond.instanceMethod yX12_takesRole ∈ GW := wt_7 (List.mem_of_getElem? (i := 166) (by decide +kernel)) rfl
theorem mw_1351 : Cond.code yX12_takesRole cX12_takesRole 2 (some FieldType.boolean) ∈ GW := wt_7 (List.mem_of_getElem? (i := 167) (by decide +kernel)) rfl
theorem mw_1352 : Cond.methodLink RX12 253 yX12_bitOf ∈ GW := wt_7 (List.mem_of_getElem? (i := 168) (by decide +kernel)) rfl
theorem mw_1353 : Cond.static yX12_bitOf ∈ GW := wt_7 (List.mem_of_getElem? (i := 169) (by decide +kernel)) rfl
theorem mw_1354 : Cond.code yX12_bitOf cX12_bitOf 2 (some FieldType.boolean) ∈ GW := wt_7 (List.mem_of_getElem? (i := 170) (by decide +kernel)) rfl
theorem mw_1355 : Cond.methodLink RX12 237 yX12_readRain ∈ GW := wt_7 (List.mem_of_getElem? (i := 171) (by decide +kernel)) rfl
theorem mw_1356 : Cond.instanceMethod yX12_readRain ∈ GW := wt_7 (List.mem_of_getElem? (i := 173) (by decide +kernel)) rfl
theorem mw_1357 : Cond.code yX12_readRain cX12_readRain 3 (some FieldType.boolean) ∈ GW := wt_7 (List.mem_of_getElem? (i := 174) (by decide +kernel)) rfl
theorem mw_1358 : Cond.methodLink RX12 265 yX12_sign ∈ GW := wt_7 (List.mem_of_getElem? (i := 175) (by decide +kernel)) rfl
theorem mw_1359 : Cond.instanceMethod yX12_sign ∈ GW := wt_7 (List.mem_of_getElem? (i := 177) (by decide +kernel)) rfl
theorem mw_1360 : Cond.code yX12_sign cX12_sign 2 (some FieldType.boolean) ∈ GW := wt_7 (List.mem_of_getElem? (i := 178) (by decide +kernel)) rfl
theorem mw_1361 : Cond.methodLink RL 44 yX12_fault ∈ GW := wt_7 (List.mem_of_getElem? (i := 179) (by decide +kernel)) rfl
theorem mw_1362 : Cond.instanceMethod yX12_fault ∈ GW := wt_7 (List.mem_of_getElem? (i := 180) (by decide +kernel)) rfl
theorem mw_1363 : Cond.selects RX12 yX12_fault yX12_fault ∈ GW := wt_7 (List.mem_of_getElem? (i := 181) (by decide +kernel)) rfl
theorem mw_1364 : Cond.code yX12_fault cX12_fault 1 (some FieldType.int) ∈ GW := wt_7 (List.mem_of_getElem? (i := 182) (by decide +kernel)) rfl
theorem mw_1365 : Cond.methodLink RL 50 yX12_port ∈ GW := wt_7 (List.mem_of_getElem? (i := 183) (by decide +kernel)) rfl
theorem mw_1366 : Cond.instanceMethod yX12_port ∈ GW := wt_7 (List.mem_of_getElem? (i := 184) (by decide +kernel)) rfl
theorem mw_1367 : Cond.selects RX12 yX12_port yX12_port ∈ GW := wt_7 (List.mem_of_getElem? (i := 185) (by decide +kernel)) rfl
theorem mw_1368 : Cond.code yX12_port cX12_port 7 (some FieldType.int) ∈ GW := wt_7 (List.mem_of_getElem? (i := 186) (by decide +kernel)) rfl
theorem mw_1369 : Cond.methodLink RX12 288 yX12_isPort ∈ GW := wt_7 (List.mem_of_getElem? (i := 187) (by decide +kernel)) rfl
theorem mw_1370 : Cond.instanceMethod yX12_isPort ∈ GW := wt_7 (List.mem_of_getElem? (i := 189) (by decide +kernel)) rfl
theorem mw_1371 : Cond.code yX12_isPort cX12_isPort 2 (some FieldType.boolean) ∈ GW := wt_7 (List.mem_of_getElem? (i := 190) (by decide +kernel)) rfl
theorem mw_1372 : Cond.methodLink RX12 291 yX12_throwsIf ∈ GW := wt_7 (List.mem_of_getElem? (i := 191) (by decide +kernel)) rfl
theorem mw_1373 : Cond.instanceMethod yX12_throwsIf ∈ GW := wt_7 (List.mem_of_getElem? (i := 193) (by decide +kernel)) rfl
theorem mw_1374 : Cond.code yX12_throwsIf cX12_throwsIf 2 (some FieldType.boolean) ∈ GW := wt_7 (List.mem_of_getElem? (i := 194) (by decide +kernel)) rfl
theorem mw_1375 : Cond.methodLink RX12 295 yX12_knownAt ∈ GW := wt_7 (List.mem_of_getElem? (i := 195) (by decide +kernel)) rfl
theorem mw_1376 : Cond.instanceMethod yX12_knownAt ∈ GW := wt_7 (List.mem_of_getElem? (i := 197) (by decide +kernel)) rfl
theorem mw_1377 : Cond.code yX12_knownAt cX12_knownAt 5 (some FieldType.int) ∈ GW := wt_7 (List.mem_of_getElem? (i := 198) (by decide +kernel)) rfl
theorem mw_1378 : Cond.methodLink RX12 285 yX12_knowsFrom ∈ GW := wt_7 (List.mem_of_getElem? (i := 199) (by decide +kernel)) rfl
theorem mw_1379 : Cond.instanceMethod yX12_knowsFrom ∈ GW := wt_7 (List.mem_of_getElem? (i := 201) (by decide +kernel)) rfl
theorem mw_1380 : Cond.code yX12_knowsFrom cX12_knowsFrom 5 (some FieldType.int) ∈ GW := wt_7 (List.mem_of_getElem? (i := 202) (by decide +kernel)) rfl
theorem mw_1381 : Cond.methodLink RX12 298 yX12_isRain ∈ GW := wt_7 (List.mem_of_getElem? (i := 203) (by decide +kernel)) rfl
theorem mw_1382 : Cond.instanceMethod yX12_isRain ∈ GW := wt_7 (List.mem_of_getElem? (i := 205) (by decide +kernel)) rfl
theorem mw_1383 : Cond.code yX12_isRain cX12_isRain 5 (some FieldType.boolean) ∈ GW := wt_7 (List.mem_of_getElem? (i := 206) (by decide +kernel)) rfl
theorem mw_1384 : Cond.methodLink RL 57 yX12_way ∈ GW := wt_7 (List.mem_of_getElem? (i := 207) (by decide +kernel)) rfl
theorem mw_1385 : Cond.instanceMethod yX12_way ∈ GW := wt_7 (List.mem_of_getElem? (i := 208) (by decide +kernel)) rfl
theorem mw_1386 : Cond.selects RX12 yX12_way yX12_way ∈ GW := wt_7 (List.mem_of_getElem? (i := 209) (by decide +kernel)) rfl
theorem mw_1387 : Cond.code yX12_way cX12_way 3 (some FieldType.int) ∈ GW := wt_7 (List.mem_of_getElem? (i := 210) (by decide +kernel)) rfl
theorem mw_1388 : Cond.methodLink RX12 301 yX12_told ∈ GW := wt_7 (List.mem_of_getElem? (i := 211) (by decide +kernel)) rfl
theorem mw_1389 : Cond.instanceMethod yX12_told ∈ GW := wt_7 (List.mem_of_getElem? (i := 213) (by decide +kernel)) rfl
theorem mw_1390 : Cond.code yX12_told cX12_told 4 (some FieldType.int) ∈ GW := wt_7 (List.mem_of_getElem? (i := 214) (by decide +kernel)) rfl
theorem mw_1391 : Cond.methodLink RL 61 yX12_mail ∈ GW := wt_7 (List.mem_of_getElem? (i := 215) (by decide +kernel)) rfl
theorem mw_1392 : Cond.instanceMethod yX12_mail ∈ GW := wt_7 (List.mem_of_getElem? (i := 216) (by decide +kernel)) rfl
theorem mw_1393 : Cond.selects RX12 yX12_mail yX12_mail ∈ GW := wt_7 (List.mem_of_getElem? (i := 217) (by decide +kernel)) rfl
theorem mw_1394 : Cond.code yX12_mail cX12_mail 3 (some FieldType.int) ∈ GW := wt_7 (List.mem_of_getElem? (i := 218) (by decide +kernel)) rfl
theorem mw_1395 : Cond.methodLink RL 66 yX12_price ∈ GW := wt_7 (List.mem_of_getElem? (i := 219) (by decide +kernel)) rfl
theorem mw_1396 : Cond.instanceMethod yX12_price ∈ GW := wt_7 (List.mem_of_getElem? (i := 220) (by decide +kernel)) rfl
theorem mw_1397 : Cond.selects RX12 yX12_price yX12_price ∈ GW := wt_7 (List.mem_of_getElem? (i := 221) (by decide +kernel)) rfl
theorem mw_1398 : Cond.code yX12_price cX12_price 4 (some FieldType.int) ∈ GW := wt_7 (List.mem_of_getElem? (i := 222) (by decide +kernel)) rfl
theorem mw_1399 : Cond.methodLink RX12 305 yX12_isShip ∈ GW := wt_7 (List.mem_of_getElem? (i := 223) (by decide +kernel)) rfl
theorem mw_1400 : Cond.instanceMethod yX12_isShip ∈ GW := wt_7 (List.mem_of_getElem? (i := 225) (by decide +kernel)) rfl
theorem mw_1401 : Cond.code yX12_isShip cX12_isShip 2 (some FieldType.boolean) ∈ GW := wt_7 (List.mem_of_getElem? (i := 226) (by decide +kernel)) rfl
theorem mw_1402 : Cond.methodLink RX12 308 yX12_owed ∈ GW := wt_7 (List.mem_of_getElem? (i := 227) (by decide +kernel)) rfl
theorem mw_1403 : Cond.instanceMethod yX12_owed ∈ GW := wt_7 (List.mem_of_getElem? (i := 229) (by decide +kernel)) rfl
theorem mw_1404 : Cond.code yX12_owed cX12_owed 3 (some FieldType.int) ∈ GW := wt_7 (List.mem_of_getElem? (i := 230) (by decide +kernel)) rfl
theorem mw_1405 : Cond.methodLink RL 70 yX12_now ∈ GW := wt_7 (List.mem_of_getElem? (i := 231) (by decide +kernel)) rfl
theorem mw_1406 : Cond.instanceMethod yX12_now ∈ GW := wt_7 (List.mem_of_getElem? (i := 232) (by decide +kernel)) rfl
theorem mw_1407 : Cond.selects RX12 yX12_now yX12_now ∈ GW := wt_7 (List.mem_of_getElem? (i := 233) (by decide +kernel)) rfl
theorem mw_1408 : Cond.code yX12_now cX12_now 2 (some FieldType.int) ∈ GW := wt_7 (List.mem_of_getElem? (i := 234) (by decide +kernel)) rfl
theorem mw_1409 : Cond.methodLink RL 74 yX12_paint ∈ GW := wt_7 (List.mem_of_getElem? (i := 235) (by decide +kernel)) rfl
theorem mw_1410 : Cond.instanceMethod yX12_paint ∈ GW := wt_7 (List.mem_of_getElem? (i := 236) (by decide +kernel)) rfl
theorem mw_1411 : Cond.selects RX12 yX12_paint yX12_paint ∈ GW := wt_7 (List.mem_of_getElem? (i := 237) (by decide +kernel)) rfl
theorem mw_1412 : Cond.code yX12_paint cX12_paint 3 (some FieldType.int) ∈ GW := wt_7 (List.mem_of_getElem? (i := 238) (by decide +kernel)) rfl
theorem mw_1413 : Cond.methodLink RX12 334 yX12_whyPaint ∈ GW := wt_7 (List.mem_of_getElem? (i := 239) (by decide +kernel)) rfl
theorem mw_1414 : Cond.instanceMethod yX12_whyPaint ∈ GW := wt_8 (List.mem_of_getElem? (i := 1) (by decide +kernel)) rfl
theorem mw_1415 : Cond.code yX12_whyPaint cX12_whyPaint 2 (some FieldType.int) ∈ GW := wt_8 (List.mem_of_getElem? (i := 2) (by decide +kernel)) rfl
theorem mw_1416 : Cond.methodLink RX12 320 yX12_canAct ∈ GW := wt_8 (List.mem_of_getElem? (i := 3) (by decide +kernel)) rfl
theorem mw_1417 : Cond.instanceMethod yX12_canAct ∈ GW := wt_8 (List.mem_of_getElem? (i := 5) (by decide +kernel)) rfl
theorem mw_1418 : Cond.code yX12_canAct cX12_canAct 1 (some FieldType.boolean) ∈ GW := wt_8 (List.mem_of_getElem? (i := 6) (by decide +kernel)) rfl
theorem mw_1419 : Cond.methodLink RX12 323 yX12_lacksOf ∈ GW := wt_8 (List.mem_of_getElem? (i := 7) (by decide +kernel)) rfl
theorem mw_1420 : Cond.instanceMethod yX12_lacksOf ∈ GW := wt_8 (List.mem_of_getElem? (i := 9) (by decide +kernel)) rfl
theorem mw_1421 : Cond.code yX12_lacksOf cX12_lacksOf 2 (some FieldType.int) ∈ GW := wt_8 (List.mem_of_getElem? (i := 10) (by decide +kernel)) rfl
theorem mw_1422 : Cond.methodLink RX12 317 yX12_casts ∈ GW := wt_8 (List.mem_of_getElem? (i := 11) (by decide +kernel)) rfl
theorem mw_1423 : Cond.instanceMethod yX12_casts ∈ GW := wt_8 (List.mem_of_getElem? (i := 13) (by decide +kernel)) rfl
theorem mw_1424 : Cond.code yX12_casts cX12_casts 6 none ∈ GW := wt_8 (List.mem_of_getElem? (i := 14) (by decide +kernel)) rfl
theorem mw_1425 : Cond.methodLink RX12 314 yX12_costOf ∈ GW := wt_8 (List.mem_of_getElem? (i := 15) (by decide +kernel)) rfl
theorem mw_1426 : Cond.instanceMethod yX12_costOf ∈ GW := wt_8 (List.mem_of_getElem? (i := 17) (by decide +kernel)) rfl
theorem mw_1427 : Cond.code yX12_costOf cX12_costOf 3 (some FieldType.int) ∈ GW := wt_8 (List.mem_of_getElem? (i := 18) (by decide +kernel)) rfl
theorem mw_1428 : Cond.methodLink RX12 327 yX12_late ∈ GW := wt_8 (List.mem_of_getElem? (i := 19) (by decide +kernel)) rfl
theorem mw_1429 : Cond.instanceMethod yX12_late ∈ GW := wt_8 (List.mem_of_getElem? (i := 21) (by decide +kernel)) rfl
theorem mw_1430 : Cond.code yX12_late cX12_late 2 (some FieldType.int) ∈ GW := wt_8 (List.mem_of_getElem? (i := 22) (by decide +kernel)) rfl
theorem mw_1431 : Cond.methodLink RX12 337 yX12_keep ∈ GW := wt_8 (List.mem_of_getElem? (i := 23) (by decide +kernel)) rfl
theorem mw_1432 : Cond.instanceMethod yX12_keep ∈ GW := wt_8 (List.mem_of_getElem? (i := 25) (by decide +kernel)) rfl
theorem mw_1433 : Cond.code yX12_keep cX12_keep 2 none ∈ GW := wt_8 (List.mem_of_getElem? (i := 26) (by decide +kernel)) rfl
theorem mw_1434 : Cond.methodLink RX12 340 yX12_paints ∈ GW := wt_8 (List.mem_of_getElem? (i := 27) (by decide +kernel)) rfl
theorem mw_1435 : Cond.instanceMethod yX12_paints ∈ GW := wt_8 (List.mem_of_getElem? (i := 29) (by decide +kernel)) rfl
theorem mw_1436 : Cond.code yX12_paints cX12_paints 2 none ∈ GW := wt_8 (List.mem_of_getElem? (i := 30) (by decide +kernel)) rfl
theorem mw_1437 : Cond.methodLink RL 78 yX12_sail ∈ GW := wt_8 (List.mem_of_getElem? (i := 31) (by decide +kernel)) rfl
theorem mw_1438 : Cond.instanceMethod yX12_sail ∈ GW := wt_8 (List.mem_of_getElem? (i := 32) (by decide +kernel)) rfl
theorem mw_1439 : Cond.selects RX12 yX12_sail yX12_sail ∈ GW := wt_8 (List.mem_of_getElem? (i := 33) (by decide +kernel)) rfl
theorem mw_1440 : Cond.code yX12_sail cX12_sail 3 (some FieldType.int) ∈ GW := wt_8 (List.mem_of_getElem? (i := 34) (by decide +kernel)) rfl
theorem mw_1441 : Cond.methodLink RX12 343 yX12_whySail ∈ GW := wt_8 (List.mem_of_getElem? (i := 35) (by decide +kernel)) rfl
theorem mw_1442 : Cond.instanceMethod yX12_whySail ∈ GW := wt_8 (List.mem_of_getElem? (i := 37) (by decide +kernel)) rfl
theorem mw_1443 : Cond.code yX12_whySail cX12_whySail 3 (some FieldType.int) ∈ GW := wt_8 (List.mem_of_getElem? (i := 38) (by decide +kernel)) rfl
theorem mw_1444 : Cond.methodLink RX12 346 yX12_sails ∈ GW := wt_8 (List.mem_of_getElem? (i := 39) (by decide +kernel)) rfl
theorem mw_1445 : Cond.instanceMethod yX12_sails ∈ GW := wt_8 (List.mem_of_getElem? (i := 41) (by decide +kernel)) rfl
theorem mw_1446 : Cond.code yX12_sails cX12_sails 3 none ∈ GW := wt_8 (List.mem_of_getElem? (i := 42) (by decide +kernel)) rfl
theorem mw_1447 : Cond.methodLink RX12 330 yX12_learnsName ∈ GW := wt_8 (List.mem_of_getElem? (i := 43) (by decide +kernel)) rfl
theorem mw_1448 : Cond.instanceMethod yX12_learnsName ∈ GW := wt_8 (List.mem_of_getElem? (i := 45) (by decide +kernel)) rfl
theorem mw_1449 : Cond.code yX12_learnsName cX12_learnsName 5 none ∈ GW := wt_8 (List.mem_of_getElem? (i := 46) (by decide +kernel)) rfl
theorem mw_1450 : Cond.methodLink RL 82 yX12_waits ∈ GW := wt_8 (List.mem_of_getElem? (i := 47) (by decide +kernel)) rfl
theorem mw_1451 : Cond.instanceMethod yX12_waits ∈ GW := wt_8 (List.mem_of_getElem? (i := 48) (by decide +kernel)) rfl
theorem mw_1452 : Cond.selects RX12 yX12_waits yX12_waits ∈ GW := wt_8 (List.mem_of_getElem? (i := 49) (by decide +kernel)) rfl
theorem mw_1453 : Cond.code yX12_waits cX12_waits 3 (some FieldType.int) ∈ GW := wt_8 (List.mem_of_getElem? (i := 50) (by decide +kernel)) rfl
theorem mw_1454 : Cond.methodLink RX12 349 yX12_whyWait ∈ GW := wt_8 (List.mem_of_getElem? (i := 51) (by decide +kernel)) rfl
theorem mw_1455 : Cond.instanceMethod yX12_whyWait ∈ GW := wt_8 (List.mem_of_getElem? (i := 53) (by decide +kernel)) rfl
theorem mw_1456 : Cond.code yX12_whyWait cX12_whyWait 2 (some FieldType.int) ∈ GW := wt_8 (List.mem_of_getElem? (i := 54) (by decide +kernel)) rfl
theorem mw_1457 : Cond.methodLink RL 86 yX12_takes_ ∈ GW := wt_8 (List.mem_of_getElem? (i := 55) (by decide +kernel)) rfl
theorem mw_1458 : Cond.instanceMethod yX12_takes_ ∈ GW := wt_8 (List.mem_of_getElem? (i := 56) (by decide +kernel)) rfl
theorem mw_1459 : Cond.selects RX12 yX12_takes_ yX12_takes_ ∈ GW := wt_8 (List.mem_of_getElem? (i := 57) (by decide +kernel)) rfl
theorem mw_1460 : Cond.code yX12_takes_ cX12_takes_ 2 (some FieldType.int) ∈ GW := wt_8 (List.mem_of_getElem? (i := 58) (by decide +kernel)) rfl
theorem mw_1461 : Cond.methodLink RX12 352 yX12_whyTake ∈ GW := wt_8 (List.mem_of_getElem? (i := 59) (by decide +kernel)) rfl
theorem mw_1462 : Cond.instanceMethod yX12_whyTake ∈ GW := wt_8 (List.mem_of_getElem? (i := 61) (by decide +kernel)) rfl
theorem mw_1463 : Cond.code yX12_whyTake cX12_whyTake 1 (some FieldType.int) ∈ GW := wt_8 (List.mem_of_getElem? (i := 62) (by decide +kernel)) rfl
theorem mw_1464 : Cond.methodLink RX12 355 yX12_takesAll ∈ GW := wt_8 (List.mem_of_getElem? (i := 63) (by decide +kernel)) rfl
theorem mw_1465 : Cond.instanceMethod yX12_takesAll ∈ GW := wt_8 (List.mem_of_getElem? (i := 65) (by decide +kernel)) rfl
theorem mw_1466 : Cond.code yX12_takesAll cX12_takesAll 1 none ∈ GW := wt_8 (List.mem_of_getElem? (i := 66) (by decide +kernel)) rfl
theorem mw_1467 : Cond.methodLink RL 90 yX12_learn ∈ GW := wt_8 (List.mem_of_getElem? (i := 67) (by decide +kernel)) rfl
theorem mw_1468 : Cond.instanceMethod yX12_learn ∈ GW := wt_8 (List.mem_of_getElem? (i := 68) (by decide +kernel)) rfl
theorem mw_1469 : Cond.selects RX12 yX12_learn yX12_learn ∈ GW := wt_8 (List.mem_of_getElem? (i := 69) (by decide +kernel)) rfl
theorem mw_1470 : Cond.code yX12_learn cX12_learn 4 (some FieldType.int) ∈ GW := wt_8 (List.mem_of_getElem? (i := 70) (by decide +kernel)) rfl
theorem mw_1471 : Cond.methodLink RX12 358 yX12_isMan ∈ GW := wt_8 (List.mem_of_getElem? (i := 71) (by decide +kernel)) rfl
theorem mw_1472 : Cond.instanceMethod yX12_isMan ∈ GW := wt_8 (List.mem_of_getElem? (i := 73) (by decide +kernel)) rfl
theorem mw_1473 : Cond.code yX12_isMan cX12_isMan 2 (some FieldType.boolean) ∈ GW := wt_8 (List.mem_of_getElem? (i := 74) (by decide +kernel)) rfl
theorem mw_1474 : Cond.methodLink RX12 361 yX12_whyLearn ∈ GW := wt_8 (List.mem_of_getElem? (i := 75) (by decide +kernel)) rfl
theorem mw_1475 : Cond.instanceMethod yX12_whyLearn ∈ GW := wt_8 (List.mem_of_getElem? (i := 77) (by decide +kernel)) rfl
theorem mw_1476 : Cond.code yX12_whyLearn cX12_whyLearn 3 (some FieldType.int) ∈ GW := wt_8 (List.mem_of_getElem? (i := 78) (by decide +kernel)) rfl
theorem mw_1477 : Cond.methodLink RX12 364 yX12_learns ∈ GW := wt_8 (List.mem_of_getElem? (i := 79) (by decide +kernel)) rfl
theorem mw_1478 : Cond.instanceMethod yX12_learns ∈ GW := wt_8 (List.mem_of_getElem? (i := 81) (by decide +kernel)) rfl
theorem mw_1479 : Cond.code yX12_learns cX12_learns 3 none ∈ GW := wt_8 (List.mem_of_getElem? (i := 82) (by decide +kernel)) rfl
theorem mw_1480 : Cond.methodLink RL 94 yX12_undo ∈ GW := wt_8 (List.mem_of_getElem? (i := 83) (by decide +kernel)) rfl
theorem mw_1481 : Cond.instanceMethod yX12_undo ∈ GW := wt_8 (List.mem_of_getElem? (i := 84) (by decide +kernel)) rfl
theorem mw_1482 : Cond.selects RX12 yX12_undo yX12_undo ∈ GW := wt_8 (List.mem_of_getElem? (i := 85) (by decide +kernel)) rfl
theorem mw_1483 : Cond.code yX12_undo cX12_undo 2 (some FieldType.int) ∈ GW := wt_8 (List.mem_of_getElem? (i := 86) (by decide +kernel)) rfl
theorem mw_1484 : Cond.methodLink RL 98 yX12_knows ∈ GW := wt_8 (List.mem_of_getElem? (i := 87) (by decide +kernel)) rfl
theorem mw_1485 : Cond.instanceMethod yX12_knows ∈ GW := wt_8 (List.mem_of_getElem? (i := 88) (by decide +kernel)) rfl
theorem mw_1486 : Cond.selects RX12 yX12_knows yX12_knows ∈ GW := wt_8 (List.mem_of_getElem? (i := 89) (by decide +kernel)) rfl
theorem mw_1487 : Cond.code yX12_knows cX12_knows 4 (some FieldType.int) ∈ GW := wt_8 (List.mem_of_getElem? (i := 90) (by decide +kernel)) rfl
theorem mw_1488 : Cond.methodLink RL 102 yX12_first ∈ GW := wt_8 (List.mem_of_getElem? (i := 91) (by decide +kernel)) rfl
theorem mw_1489 : Cond.instanceMethod yX12_first ∈ GW := wt_8 (List.mem_of_getElem? (i := 92) (by decide +kernel)) rfl
theorem mw_1490 : Cond.selects RX12 yX12_first yX12_first ∈ GW := wt_8 (List.mem_of_getElem? (i := 93) (by decide +kernel)) rfl
theorem mw_1491 : Cond.code yX12_first cX12_first 6 (some FieldType.int) ∈ GW := wt_8 (List.mem_of_getElem? (i := 94) (by decide +kernel)) rfl
theorem mw_1492 : Cond.methodLink RL 106 yX12_far ∈ GW := wt_8 (List.mem_of_getElem? (i := 95) (by decide +kernel)) rfl
theorem mw_1493 : Cond.instanceMethod yX12_far ∈ GW := wt_8 (List.mem_of_getElem? (i := 96) (by decide +kernel)) rfl
theorem mw_1494 : Cond.selects RX12 yX12_far yX12_far ∈ GW := wt_8 (List.mem_of_getElem? (i := 97) (by decide +kernel)) rfl
theorem mw_1495 : Cond.code yX12_far cX12_far 3 (some FieldType.int) ∈ GW := wt_8 (List.mem_of_getElem? (i := 98) (by decide +kernel)) rfl
theorem mw_1496 : Cond.methodLink RL 110 yX12_hears ∈ GW := wt_8 (List.mem_of_getElem? (i := 99) (by decide +kernel)) rfl
theorem mw_1497 : Cond.instanceMethod yX12_hears ∈ GW := wt_8 (List.mem_of_getElem? (i := 100) (by decide +kernel)) rfl
theorem mw_1498 : Cond.selects RX12 yX12_hears yX12_hears ∈ GW := wt_8 (List.mem_of_getElem? (i := 101) (by decide +kernel)) rfl
theorem mw_1499 : Cond.code yX12_hears cX12_hears 3 (some FieldType.int) ∈ GW := wt_8 (List.mem_of_getElem? (i := 102) (by decide +kernel)) rfl
theorem mw_1500 : Cond.methodLink RX12 368 yX12_doesHear ∈ GW := wt_8 (List.mem_of_getElem? (i := 103) (by decide +kernel)) rfl
theorem mw_1501 : Cond.instanceMethod yX12_doesHear ∈ GW := wt_8 (List.mem_of_getElem? (i := 105) (by decide +kernel)) rfl
theorem mw_1502 : Cond.code yX12_doesHear cX12_doesHear 3 (some FieldType.boolean) ∈ GW := wt_8 (List.mem_of_getElem? (i := 106) (by decide +kernel)) rfl
theorem mw_1503 : Cond.methodLink RL 114 yX12_safe ∈ GW := wt_8 (List.mem_of_getElem? (i := 107) (by decide +kernel)) rfl
theorem mw_1504 : Cond.instanceMethod yX12_safe ∈ GW := wt_8 (List.mem_of_getElem? (i := 108) (by decide +kernel)) rfl
theorem mw_1505 : Cond.selects RX12 yX12_safe yX12_safe ∈ GW := wt_8 (List.mem_of_getElem? (i := 109) (by decide +kernel)) rfl
theorem mw_1506 : Cond.code yX12_safe cX12_safe 2 (some FieldType.int) ∈ GW := wt_8 (List.mem_of_getElem? (i := 110) (by decide +kernel)) rfl
theorem mw_1507 : Cond.methodLink RL 118 yX12_outruns ∈ GW := wt_8 (List.mem_of_getElem? (i := 111) (by decide +kernel)) rfl
theorem mw_1508 : Cond.instanceMethod yX12_outruns ∈ GW := wt_8 (List.mem_of_getElem? (i := 112) (by decide +kernel)) rfl
theorem mw_1509 : Cond.selects RX12 yX12_outruns yX12_outruns ∈ GW := wt_8 (List.mem_of_getElem? (i := 113) (by decide +kernel)) rfl
theorem mw_1510 : Cond.code yX12_outruns cX12_outruns 2 (some FieldType.int) ∈ GW := wt_8 (List.mem_of_getElem? (i := 114) (by decide +kernel)) rfl
theorem mw_1511 : Cond.methodLink RL 122 yX12_names ∈ GW := wt_8 (List.mem_of_getElem? (i := 115) (by decide +kernel)) rfl
theorem mw_1512 : Cond.instanceMethod yX12_names ∈ GW := wt_8 (List.mem_of_getElem? (i := 116) (by decide +kernel)) rfl
theorem mw_1513 : Cond.selects RX12 yX12_names yX12_names ∈ GW := wt_8 (List.mem_of_getElem? (i := 117) (by decide +kernel)) rfl
theorem mw_1514 : Cond.code yX12_names cX12_names 1 (some FieldType.int) ∈ GW := wt_8 (List.mem_of_getElem? (i := 118) (by decide +kernel)) rfl
theorem mw_1515 : Cond.methodLink RX12 377 yX12_fewestNames ∈ GW := wt_8 (List.mem_of_getElem? (i := 119) (by decide +kernel)) rfl
theorem mw_1516 : Cond.instanceMethod yX12_fewestNames ∈ GW := wt_8 (List.mem_of_getElem? (i := 121) (by decide +kernel)) rfl
theorem mw_1517 : Cond.code yX12_fewestNames cX12_fewestNames 2 (some FieldType.int) ∈ GW := wt_8 (List.mem_of_getElem? (i := 122) (by decide +kernel)) rfl
theorem mw_1518 : Cond.methodLink RX12 374 yX12_givesBy ∈ GW := wt_8 (List.mem_of_getElem? (i := 123) (by decide +kernel)) rfl
theorem mw_1519 : Cond.instanceMethod yX12_givesBy ∈ GW := wt_8 (List.mem_of_getElem? (i := 125) (by decide +kernel)) rfl
theorem mw_1520 : Cond.code yX12_givesBy cX12_givesBy 3 (some FieldType.boolean) ∈ GW := wt_8 (List.mem_of_getElem? (i := 126) (by decide +kernel)) rfl
theorem mw_1521 : Cond.methodLink RX12 371 yX12_fits ∈ GW := wt_8 (List.mem_of_getElem? (i := 127) (by decide +kernel)) rfl
theorem mw_1522 : Cond.instanceMethod yX12_fits ∈ GW := wt_8 (List.mem_of_getElem? (i := 129) (by decide +kernel)) rfl
theorem mw_1523 : Cond.code yX12_fits cX12_fits 4 (some FieldType.boolean) ∈ GW := wt_8 (List.mem_of_getElem? (i := 130) (by decide +kernel)) rfl
theorem mw_1524 : Cond.methodLink RL 126 yX12_nameOf ∈ GW := wt_8 (List.mem_of_getElem? (i := 131) (by decide +kernel)) rfl
theorem mw_1525 : Cond.instanceMethod yX12_nameOf ∈ GW := wt_8 (List.mem_of_getElem? (i := 132) (by decide +kernel)) rfl
theorem mw_1526 : Cond.selects RX12 yX12_nameOf yX12_nameOf ∈ GW := wt_8 (List.mem_of_getElem? (i := 133) (by decide +kernel)) rfl
theorem mw_1527 : Cond.code yX12_nameOf cX12_nameOf 2 (some FieldType.int) ∈ GW := wt_8 (List.mem_of_getElem? (i := 134) (by decide +kernel)) rfl
theorem mw_1528 : Cond.methodLink RL 130 yX12_register ∈ GW := wt_8 (List.mem_of_getElem? (i := 135) (by decide +kernel)) rfl
theorem mw_1529 : Cond.instanceMethod yX12_register ∈ GW := wt_8 (List.mem_of_getElem? (i := 136) (by decide +kernel)) rfl
theorem mw_1530 : Cond.selects RX12 yX12_register yX12_register ∈ GW := wt_8 (List.mem_of_getElem? (i := 137) (by decide +kernel)) rfl
theorem mw_1531 : Cond.code yX12_register cX12_register 5 (some FieldType.int) ∈ GW := wt_8 (List.mem_of_getElem? (i := 138) (by decide +kernel)) rfl
theorem mw_1532 : Cond.methodLink RX12 380 yX12_octet ∈ GW := wt_8 (List.mem_of_getElem? (i := 139) (by decide +kernel)) rfl
theorem mw_1533 : Cond.instanceMethod yX12_octet ∈ GW := wt_8 (List.mem_of_getElem? (i := 141) (by decide +kernel)) rfl
theorem mw_1534 : Cond.code yX12_octet cX12_octet 2 (some FieldType.int) ∈ GW := wt_8 (List.mem_of_getElem? (i := 142) (by decide +kernel)) rfl
theorem mw_1535 : Cond.methodLink RX12 383 yX12_canFollow ∈ GW := wt_8 (List.mem_of_getElem? (i := 143) (by decide +kernel)) rfl
theorem mw_1536 : Cond.instanceMethod yX12_canFollow ∈ GW := wt_8 (List.mem_of_getElem? (i := 145) (by decide +kernel)) rfl
theorem mw_1537 : Cond.code yX12_canFollow cX12_canFollow 4 (some FieldType.boolean) ∈ GW := wt_8 (List.mem_of_getElem? (i := 146) (by decide +kernel)) rfl
theorem mw_1538 : Cond.methodLink RX12 386 yX12_greater ∈ GW := wt_8 (List.mem_of_getElem? (i := 147) (by decide +kernel)) rfl
theorem mw_1539 : Cond.static yX12_greater ∈ GW := wt_8 (List.mem_of_getElem? (i := 148) (by decide +kernel)) rfl
theorem mw_1540 : Cond.code yX12_greater cX12_greater 2 (some FieldType.int) ∈ GW := wt_8 (List.mem_of_getElem? (i := 149) (by decide +kernel)) rfl
theorem mw_1541 : Cond.methodLink RL 134 yX12_lacks ∈ GW := wt_8 (List.mem_of_getElem? (i := 150) (by decide +kernel)) rfl
theorem mw_1542 : Cond.instanceMethod yX12_lacks ∈ GW := wt_8 (List.mem_of_getElem? (i := 151) (by decide +kernel)) rfl
theorem mw_1543 : Cond.selects RX12 yX12_lacks yX12_lacks ∈ GW := wt_8 (List.mem_of_getElem? (i := 152) (by decide +kernel)) rfl
theorem mw_1544 : Cond.code yX12_lacks cX12_lacks 2 (some FieldType.int) ∈ GW := wt_8 (List.mem_of_getElem? (i := 153) (by decide +kernel)) rfl
theorem mw_1545 : Cond.methodLink RL 138 yX12_plays ∈ GW := wt_8 (List.mem_of_getElem? (i := 154) (by decide +kernel)) rfl
theorem mw_1546 : Cond.instanceMethod yX12_plays ∈ GW := wt_8 (List.mem_of_getElem? (i := 155) (by decide +kernel)) rfl
theorem mw_1547 : Cond.selects RX12 yX12_plays yX12_plays ∈ GW := wt_8 (List.mem_of_getElem? (i := 156) (by decide +kernel)) rfl
theorem mw_1548 : Cond.code yX12_plays cX12_plays 3 (some FieldType.int) ∈ GW := wt_8 (List.mem_of_getElem? (i := 157) (by decide +kernel)) rfl
theorem mw_1549 : Cond.methodLink RL 142 yX12_man ∈ GW := wt_8 (List.mem_of_getElem? (i := 158) (by decide +kernel)) rfl
theorem mw_1550 : Cond.instanceMethod yX12_man ∈ GW := wt_8 (List.mem_of_getElem? (i := 159) (by decide +kernel)) rfl
theorem mw_1551 : Cond.selects RX12 yX12_man yX12_man ∈ GW := wt_8 (List.mem_of_getElem? (i := 160) (by decide +kernel)) rfl
theorem mw_1552 : Cond.code yX12_man cX12_man 2 (some FieldType.int) ∈ GW := wt_8 (List.mem_of_getElem? (i := 161) (by decide +kernel)) rfl
theorem mw_1553 : Cond.methodLink RL 146 yX12_needs ∈ GW := wt_8 (List.mem_of_getElem? (i := 162) (by decide +kernel)) rfl
theorem mw_1554 : Cond.instanceMethod yX12_needs ∈ GW := wt_8 (List.mem_of_getElem? (i := 163) (by decide +kernel)) rfl
theorem mw_1555 : Cond.selects RX12 yX12_needs yX12_needs ∈ GW := wt_8 (List.mem_of_getElem? (i := 164) (by decide +kernel)) rfl
theorem mw_1556 : Cond.code yX12_needs cX12_needs 2 (some FieldType.int) ∈ GW := wt_8 (List.mem_of_getElem? (i := 165) (by decide +kernel)) rfl
theorem mw_1557 : Cond.methodLink RL 150 yX12_over ∈ GW := wt_8 (List.mem_of_getElem? (i := 166) (by decide +kernel)) rfl
theorem mw_1558 : Cond.instanceMethod yX12_over ∈ GW := wt_8 (List.mem_of_getElem? (i := 167) (by decide +kernel)) rfl
theorem mw_1559 : Cond.selects RX12 yX12_over yX12_over ∈ GW := wt_8 (List.mem_of_getElem? (i := 168) (by decide +kernel)) rfl
theorem mw_1560 : Cond.code yX12_over cX12_over 3 (some FieldType.int) ∈ GW := wt_8 (List.mem_of_getElem? (i := 169) (by decide +kernel)) rfl
theorem mw_1561 : Cond.methodLink RX12 397 yX12_overOf ∈ GW := wt_8 (List.mem_of_getElem? (i := 170) (by decide +kernel)) rfl
theorem mw_1562 : Cond.instanceMethod yX12_overOf ∈ GW := wt_8 (List.mem_of_getElem? (i := 172) (by decide +kernel)) rfl
theorem mw_1563 : Cond.code yX12_overOf cX12_overOf 13 (some FieldType.int) ∈ GW := wt_8 (List.mem_of_getElem? (i := 173) (by decide +kernel)) rfl
theorem mw_1564 : Cond.methodLink RX12 389 yX12_lettersOf ∈ GW := wt_8 (List.mem_of_getElem? (i := 174) (by decide +kernel)) rfl
theorem mw_1565 : Cond.static yX12_lettersOf ∈ GW := wt_8 (List.mem_of_getElem? (i := 175) (by decide +kernel)) rfl
theorem mw_1566 : Cond.code yX12_lettersOf cX12_lettersOf 5 (some FieldType.int) ∈ GW := wt_8 (List.mem_of_getElem? (i := 176) (by decide +kernel)) rfl
theorem mw_1567 : Cond.methodLink RX12 393 yX12_letterOf ∈ GW := wt_8 (List.mem_of_getElem? (i := 177) (by decide +kernel)) rfl
theorem mw_1568 : Cond.static yX12_letterOf ∈ GW := wt_8 (List.mem_of_getElem? (i := 178) (by decide +kernel)) rfl
theorem mw_1569 : Cond.code yX12_letterOf cX12_letterOf 3 (some FieldType.int) ∈ GW := wt_8 (List.mem_of_getElem? (i := 179) (by decide +kernel)) rfl
theorem mw_1570 : Cond.methodLink RL 154 yX12_mixed ∈ GW := wt_8 (List.mem_of_getElem? (i := 180) (by decide +kernel)) rfl
theorem mw_1571 : Cond.instanceMethod yX12_mixed ∈ GW := wt_8 (List.mem_of_getElem? (i := 181) (by decide +kernel)) rfl
theorem mw_1572 : Cond.selects RX12 yX12_mixed yX12_mixed ∈ GW := wt_8 (List.mem_of_getElem? (i := 182) (by decide +kernel)) rfl
theorem mw_1573 : Cond.code yX12_mixed cX12_mixed 6 (some FieldType.int) ∈ GW := wt_8 (List.mem_of_getElem? (i := 183) (by decide +kernel)) rfl
theorem mw_1574 : Cond.methodLink RL 158 yX12_net ∈ GW := wt_8 (List.mem_of_getElem? (i := 184) (by decide +kernel)) rfl
theorem mw_1575 : Cond.instanceMethod yX12_net ∈ GW := wt_8 (List.mem_of_getElem? (i := 185) (by decide +kernel)) rfl
theorem mw_1576 : Cond.selects RX12 yX12_net yX12_net ∈ GW := wt_8 (List.mem_of_getElem? (i := 186) (by decide +kernel)) rfl
theorem mw_1577 : Cond.code yX12_net cX12_net 4 (some FieldType.int) ∈ GW := wt_8 (List.mem_of_getElem? (i := 187) (by decide +kernel)) rfl
theorem mw_1578 : Cond.methodLink RL 161 yX12_lasts ∈ GW := wt_8 (List.mem_of_getElem? (i := 188) (by decide +kernel)) rfl
theorem mw_1579 : Cond.instanceMethod yX12_lasts ∈ GW := wt_8 (List.mem_of_getElem? (i := 189) (by decide +kernel)) rfl
theorem mw_1580 : Cond.selects RX12 yX12_lasts yX12_lasts ∈ GW := wt_8 (List.mem_of_getElem? (i := 190) (by decide +kernel)) rfl
theorem mw_1581 : Cond.code yX12_lasts cX12_lasts 6 (some FieldType.int) ∈ GW := wt_8 (List.mem_of_getElem? (i := 191) (by decide +kernel)) rfl
theorem mw_1582 : Cond.methodLink RX12 400 yX12_part ∈ GW := wt_8 (List.mem_of_getElem? (i := 192) (by decide +kernel)) rfl
theorem mw_1583 : Cond.static yX12_part ∈ GW := wt_8 (List.mem_of_getElem? (i := 193) (by decide +kernel)) rfl
theorem mw_1584 : Cond.code yX12_part cX12_part 6 (some FieldType.int) ∈ GW := wt_8 (List.mem_of_getElem? (i := 194) (by decide +kernel)) rfl
theorem mw_1585 : Cond.methodLink RL 165 yX12_soonest ∈ GW := wt_8 (List.mem_of_getElem? (i := 195) (by decide +kernel)) rfl
theorem mw_1586 : Cond.instanceMethod yX12_soonest ∈ GW := wt_8 (List.mem_of_getElem? (i := 196) (by decide +kernel)) rfl
theorem mw_1587 : Cond.selects RX12 yX12_soonest yX12_soonest ∈ GW := wt_8 (List.mem_of_getElem? (i := 197) (by decide +kernel)) rfl
theorem mw_1588 : Cond.code yX12_soonest cX12_soonest 1 (some FieldType.int) ∈ GW := wt_8 (List.mem_of_getElem? (i := 198) (by decide +kernel)) rfl
theorem mw_1589 : Cond.methodLink RX12 409 yX12_soonestOf ∈ GW := wt_8 (List.mem_of_getElem? (i := 199) (by decide +kernel)) rfl
theorem mw_1590 : Cond.instanceMethod yX12_soonestOf ∈ GW := wt_8 (List.mem_of_getElem? (i := 201) (by decide +kernel)) rfl
theorem mw_1591 : Cond.code yX12_soonestOf cX12_soonestOf 4 none ∈ GW := wt_8 (List.mem_of_getElem? (i := 202) (by decide +kernel)) rfl
theorem mw_1592 : Cond.methodLink RL 169 yX12_where ∈ GW := wt_8 (List.mem_of_getElem? (i := 203) (by decide +kernel)) rfl
theorem mw_1593 : Cond.instanceMethod yX12_where ∈ GW := wt_8 (List.mem_of_getElem? (i := 204) (by decide +kernel)) rfl
theorem mw_1594 : Cond.selects RX12 yX12_where yX12_where ∈ GW := wt_8 (List.mem_of_getElem? (i := 205) (by decide +kernel)) rfl
theorem mw_1595 : Cond.code yX12_where cX12_where 1 (some FieldType.int) ∈ GW := wt_8 (List.mem_of_getElem? (i := 206) (by decide +kernel)) rfl
theorem mw_1596 : Cond.methodLink RL 173 yX12_drawn ∈ GW := wt_8 (List.mem_of_getElem? (i := 207) (by decide +kernel)) rfl
theorem mw_1597 : Cond.instanceMethod yX12_drawn ∈ GW := wt_8 (List.mem_of_getElem? (i := 208) (by decide +kernel)) rfl
theorem mw_1598 : Cond.selects RX12 yX12_drawn yX12_drawn ∈ GW := wt_8 (List.mem_of_getElem? (i := 209) (by decide +kernel)) rfl
theorem mw_1599 : Cond.code yX12_drawn cX12_drawn 3 (some FieldType.int) ∈ GW := wt_8 (List.mem_of_getElem? (i := 210) (by decide +kernel)) rfl
theorem mw_1600 : Cond.methodLink RX12 419 yX12_draws ∈ GW := wt_8 (List.mem_of_getElem? (i := 211) (by decide +kernel)) rfl
theorem mw_1601 : Cond.instanceMethod yX12_draws ∈ GW := wt_8 (List.mem_of_getElem? (i := 213) (by decide +kernel)) rfl
theorem mw_1602 : Cond.code yX12_draws cX12_draws 5 (some FieldType.int) ∈ GW := wt_8 (List.mem_of_getElem? (i := 214) (by decide +kernel)) rfl
theorem mw_1603 : Cond.methodLink RX12 416 yX12_draw ∈ GW := wt_8 (List.mem_of_getElem? (i := 215) (by decide +kernel)) rfl
theorem mw_1604 : Cond.instanceMethod yX12_draw ∈ GW := wt_8 (List.mem_of_getElem? (i := 217) (by decide +kernel)) rfl
theorem mw_1605 : Cond.code yX12_draw cX12_draw 2 (some FieldType.int) ∈ GW := wt_8 (List.mem_of_getElem? (i := 218) (by decide +kernel)) rfl
theorem mw_1606 : Cond.constant RX12 415 (1103515245) ∈ GW := wt_8 (List.mem_of_getElem? (i := 219) (by decide +kernel)) rfl
theorem mw_1607 : Cond.methodLink RL 177 yX12_odds ∈ GW := wt_8 (List.mem_of_getElem? (i := 220) (by decide +kernel)) rfl
theorem mw_1608 : Cond.instanceMethod yX12_odds ∈ GW := wt_8 (List.mem_of_getElem? (i := 221) (by decide +kernel)) rfl
theorem mw_1609 : Cond.selects RX12 yX12_odds yX12_odds ∈ GW := wt_8 (List.mem_of_getElem? (i := 222) (by decide +kernel)) rfl
theorem mw_1610 : Cond.code yX12_odds cX12_odds 5 (some FieldType.int) ∈ GW := wt_8 (List.mem_of_getElem? (i := 223) (by decide +kernel)) rfl
theorem mw_1611 : Cond.methodLink RX12 422 yX12_tries ∈ GW := wt_8 (List.mem_of_getElem? (i := 224) (by decide +kernel)) rfl
theorem mw_1612 : Cond.instanceMethod yX12_tries ∈ GW := wt_8 (List.mem_of_getElem? (i := 226) (by decide +kernel)) rfl
theorem mw_1613 : Cond.code yX12_tries cX12_tries 2 none ∈ GW := wt_8 (List.mem_of_getElem? (i := 227) (by decide +kernel)) rfl
theorem mw_1614 : Cond.methodLink RX12 425 yX12_back ∈ GW := wt_8 (List.mem_of_getElem? (i := 228) (by decide +kernel)) rfl
theorem mw_1615 : Cond.instanceMethod yX12_back ∈ GW := wt_8 (List.mem_of_getElem? (i := 230) (by decide +kernel)) rfl
theorem mw_1616 : Cond.code yX12_back cX12_back 2 none ∈ GW := wt_8 (List.mem_of_getElem? (i := 231) (by decide +kernel)) rfl
theorem mw_1617 : Cond.methodLink RL 181 yX12_log ∈ GW := wt_8 (List.mem_of_getElem? (i := 232) (by decide +kernel)) rfl
theorem mw_1618 : Cond.instanceMethod yX12_log ∈ GW := wt_8 (List.mem_of_getElem? (i := 233) (by decide +kernel)) rfl
theorem mw_1619 : Cond.selects RX12 yX12_log yX12_log ∈ GW := wt_8 (List.mem_of_getElem? (i := 234) (by decide +kernel)) rfl
theorem mw_1620 : Cond.code yX12_log cX12_log 4 (some FieldType.int) ∈ GW := wt_8 (List.mem_of_getElem? (i := 235) (by decide +kernel)) rfl
theorem mw_1621 : Cond.methodLink RX12 431 yX12_logLine ∈ GW := wt_8 (List.mem_of_getElem? (i := 236) (by decide +kernel)) rfl
theorem mw_1622 : Cond.instanceMethod yX12_logLine ∈ GW := wt_8 (List.mem_of_getElem? (i := 238) (by decide +kernel)) rfl
theorem mw_1623 : Cond.code yX12_logLine cX12_logLine 3 (some FieldType.boolean) ∈ GW := wt_8 (List.mem_of_getElem? (i := 239) (by decide +kernel)) rfl
theorem mw_1624 : Cond.methodLink RX12 434 yX12_does ∈ GW := wt_9 (List.mem_of_getElem? (i := 0) (by decide +kernel)) rfl
theorem mw_1625 : Cond.instanceMethod yX12_does ∈ GW := wt_9 (List.mem_of_getElem? (i := 2) (by decide +kernel)) rfl
theorem mw_1626 : Cond.code yX12_does cX12_does 5 (some FieldType.int) ∈ GW := wt_9 (List.mem_of_getElem? (i := 3) (by decide +kernel)) rfl
theorem mw_1627 : Cond.methodLink RL 185 yX12_logged ∈ GW := wt_9 (List.mem_of_getElem? (i := 4) (by decide +kernel)) rfl
theorem mw_1628 : Cond.instanceMethod yX12_logged ∈ GW := wt_9 (List.mem_of_getElem? (i := 5) (by decide +kernel)) rfl
theorem mw_1629 : Cond.selects RX12 yX12_logged yX12_logged ∈ GW := wt_9 (List.mem_of_getElem? (i := 6) (by decide +kernel)) rfl
theorem mw_1630 : Cond.code yX12_logged cX12_logged 2 (some FieldType.int) ∈ GW := wt_9 (List.mem_of_getElem? (i := 7) (by decide +kernel)) rfl
theorem mw_1631 : Cond.methodLink RL 189 yX12_sentence ∈ GW := wt_9 (List.mem_of_getElem? (i := 8) (by decide +kernel)) rfl
theorem mw_1632 : Cond.instanceMethod yX12_sentence ∈ GW := wt_9 (List.mem_of_getElem? (i := 9) (by decide +kernel)) rfl
theorem mw_1633 : Cond.selects RX12 yX12_sentence yX12_sentence ∈ GW := wt_9 (List.mem_of_getElem? (i := 10) (by decide +kernel)) rfl
theorem mw_1634 : Cond.code yX12_sentence cX12_sentence 3 (some FieldType.int) ∈ GW := wt_9 (List.mem_of_getElem? (i := 11) (by decide +kernel)) rfl
theorem mw_1635 : Cond.methodLink RX12 461 yX12_nots ∈ GW := wt_9 (List.mem_of_getElem? (i := 12) (by decide +kernel)) rfl
theorem mw_1636 : Cond.instanceMethod yX12_nots ∈ GW := wt_9 (List.mem_of_getElem? (i := 14) (by decide +kernel)) rfl
theorem mw_1637 : Cond.code yX12_nots cX12_nots 1 none ∈ GW := wt_9 (List.mem_of_getElem? (i := 15) (by decide +kernel)) rfl
theorem mw_1638 : Cond.methodLink RX12 446 yX12_code ∈ GW := wt_9 (List.mem_of_getElem? (i := 16) (by decide +kernel)) rfl
theorem mw_1639 : Cond.instanceMethod yX12_code ∈ GW := wt_9 (List.mem_of_getElem? (i := 18) (by decide +kernel)) rfl
theorem mw_1640 : Cond.code yX12_code cX12_code 4 none ∈ GW := wt_9 (List.mem_of_getElem? (i := 19) (by decide +kernel)) rfl
theorem mw_1641 : Cond.methodLink RX12 464 yX12_joins ∈ GW := wt_9 (List.mem_of_getElem? (i := 20) (by decide +kernel)) rfl
theorem mw_1642 : Cond.instanceMethod yX12_joins ∈ GW := wt_9 (List.mem_of_getElem? (i := 22) (by decide +kernel)) rfl
theorem mw_1643 : Cond.code yX12_joins cX12_joins 2 none ∈ GW := wt_9 (List.mem_of_getElem? (i := 23) (by decide +kernel)) rfl
theorem mw_1644 : Cond.methodLink RX12 467 yX12_behind ∈ GW := wt_9 (List.mem_of_getElem? (i := 24) (by decide +kernel)) rfl
theorem mw_1645 : Cond.instanceMethod yX12_behind ∈ GW := wt_9 (List.mem_of_getElem? (i := 26) (by decide +kernel)) rfl
theorem mw_1646 : Cond.code yX12_behind cX12_behind 1 (some FieldType.boolean) ∈ GW := wt_9 (List.mem_of_getElem? (i := 27) (by decide +kernel)) rfl
theorem mw_1647 : Cond.methodLink RX12 470 yX12_operand ∈ GW := wt_9 (List.mem_of_getElem? (i := 28) (by decide +kernel)) rfl
theorem mw_1648 : Cond.instanceMethod yX12_operand ∈ GW := wt_9 (List.mem_of_getElem? (i := 30) (by decide +kernel)) rfl
theorem mw_1649 : Cond.code yX12_operand cX12_operand 5 (some FieldType.boolean) ∈ GW := wt_9 (List.mem_of_getElem? (i := 31) (by decide +kernel)) rfl
theorem mw_1650 : Cond.methodLink RX12 452 yX12_leafOf ∈ GW := wt_9 (List.mem_of_getElem? (i := 32) (by decide +kernel)) rfl
theorem mw_1651 : Cond.instanceMethod yX12_leafOf ∈ GW := wt_9 (List.mem_of_getElem? (i := 34) (by decide +kernel)) rfl
theorem mw_1652 : Cond.code yX12_leafOf cX12_leafOf 1 (some FieldType.int) ∈ GW := wt_9 (List.mem_of_getElem? (i := 35) (by decide +kernel)) rfl
theorem mw_1653 : Cond.methodLink RL 193 yX12_said ∈ GW := wt_9 (List.mem_of_getElem? (i := 36) (by decide +kernel)) rfl
theorem mw_1654 : Cond.instanceMethod yX12_said ∈ GW := wt_9 (List.mem_of_getElem? (i := 37) (by decide +kernel)) rfl
theorem mw_1655 : Cond.selects RX12 yX12_said yX12_said ∈ GW := wt_9 (List.mem_of_getElem? (i := 38) (by decide +kernel)) rfl
theorem mw_1656 : Cond.code yX12_said cX12_said 4 (some FieldType.int) ∈ GW := wt_9 (List.mem_of_getElem? (i := 39) (by decide +kernel)) rfl
theorem mw_1657 : Cond.methodLink RX12 482 yX12_isSaid ∈ GW := wt_9 (List.mem_of_getElem? (i := 40) (by decide +kernel)) rfl
theorem mw_1658 : Cond.instanceMethod yX12_isSaid ∈ GW := wt_9 (List.mem_of_getElem? (i := 42) (by decide +kernel)) rfl
theorem mw_1659 : Cond.code yX12_isSaid cX12_isSaid 5 (some FieldType.boolean) ∈ GW := wt_9 (List.mem_of_getElem? (i := 43) (by decide +kernel)) rfl
theorem mw_1660 : Cond.methodLink RX12 479 yX12_isLeaf ∈ GW := wt_9 (List.mem_of_getElem? (i := 44) (by decide +kernel)) rfl
theorem mw_1661 : Cond.instanceMethod yX12_isLeaf ∈ GW := wt_9 (List.mem_of_getElem? (i := 46) (by decide +kernel)) rfl
theorem mw_1662 : Cond.code yX12_isLeaf cX12_isLeaf 6 (some FieldType.boolean) ∈ GW := wt_9 (List.mem_of_getElem? (i := 47) (by decide +kernel)) rfl
theorem mw_1663 : Cond.methodLink RX12 473 yX12_isSafe ∈ GW := wt_9 (List.mem_of_getElem? (i := 48) (by decide +kernel)) rfl
theorem mw_1664 : Cond.instanceMethod yX12_isSafe ∈ GW := wt_9 (List.mem_of_getElem? (i := 50) (by decide +kernel)) rfl
theorem mw_1665 : Cond.code yX12_isSafe cX12_isSafe 2 (some FieldType.boolean) ∈ GW := wt_9 (List.mem_of_getElem? (i := 51) (by decide +kernel)) rfl
theorem mw_1666 : Cond.methodLink RX12 476 yX12_bits ∈ GW := wt_9 (List.mem_of_getElem? (i := 52) (by decide +kernel)) rfl
theorem mw_1667 : Cond.static yX12_bits ∈ GW := wt_9 (List.mem_of_getElem? (i := 53) (by decide +kernel)) rfl
theorem mw_1668 : Cond.code yX12_bits cX12_bits 3 (some FieldType.int) ∈ GW := wt_9 (List.mem_of_getElem? (i := 54) (by decide +kernel)) rfl
theorem mw_1669 : Cond.methodLink RL 197 yX12_image ∈ GW := wt_9 (List.mem_of_getElem? (i := 55) (by decide +kernel)) rfl
theorem mw_1670 : Cond.instanceMethod yX12_image ∈ GW := wt_9 (List.mem_of_getElem? (i := 56) (by decide +kernel)) rfl
theorem mw_1671 : Cond.selects RX12 yX12_image yX12_image ∈ GW := wt_9 (List.mem_of_getElem? (i := 57) (by decide +kernel)) rfl
theorem mw_1672 : Cond.code yX12_image cX12_image 3 (some FieldType.boolean) ∈ GW := wt_9 (List.mem_of_getElem? (i := 58) (by decide +kernel)) rfl
theorem mw_1673 : Cond.methodLink RL 201 yX12_restore ∈ GW := wt_9 (List.mem_of_getElem? (i := 59) (by decide +kernel)) rfl
theorem mw_1674 : Cond.instanceMethod yX12_restore ∈ GW := wt_9 (List.mem_of_getElem? (i := 60) (by decide +kernel)) rfl
theorem mw_1675 : Cond.selects RX12 yX12_restore yX12_restore ∈ GW := wt_9 (List.mem_of_getElem? (i := 61) (by decide +kernel)) rfl
theorem mw_1676 : Cond.code yX12_restore cX12_restore 3 (some FieldType.boolean) ∈ GW := wt_9 (List.mem_of_getElem? (i := 62) (by decide +kernel)) rfl
theorem mw_1677 : Cond.methodLink RL 205 yX12_count ∈ GW := wt_9 (List.mem_of_getElem? (i := 63) (by decide +kernel)) rfl
theorem mw_1678 : Cond.instanceMethod yX12_count ∈ GW := wt_9 (List.mem_of_getElem? (i := 64) (by decide +kernel)) rfl
theorem mw_1679 : Cond.selects RX12 yX12_count yX12_count ∈ GW := wt_9 (List.mem_of_getElem? (i := 65) (by decide +kernel)) rfl
theorem mw_1680 : Cond.code yX12_count cX12_count 2 (some FieldType.int) ∈ GW := wt_9 (List.mem_of_getElem? (i := 66) (by decide +kernel)) rfl
theorem mw_1681 : Cond.fieldLink RJ0 9 "java/lang/String" "value" "[B" ∈ GW := wt_9 (List.mem_of_getElem? (i := 84) (by decide +kernel)) rfl
theorem mw_1682 : Cond.fieldLink RJ0 15 "java/lang/String" "coder" "B" ∈ GW := wt_9 (List.mem_of_getElem? (i := 85) (by decide +kernel)) rfl
theorem mw_1683 : Cond.selects RX10 yX10_tell yX10_tell ∈ GW := gw_in (List.mem_append_left _ (List.mem_of_getElem? (i := 0) (by decide +kernel))) rfl
theorem mw_1684 : Cond.selects RX11 yX11_putBytes yX11_putBytes ∈ GW := gw_in (List.mem_append_left _ (List.mem_of_getElem? (i := 1) (by decide +kernel))) rfl
theorem mw_1685 : Cond.selects RX11 yX11_takeTape yX11_takeTape ∈ GW := gw_in (List.mem_append_left _ (List.mem_of_getElem? (i := 2) (by decide +kernel))) rfl
theorem mw_1686 : Cond.selects RX4 yX4_readRun yX4_readRun ∈ GW := gw_in (List.mem_append_left _ (List.mem_of_getElem? (i := 3) (by decide +kernel))) rfl
theorem mw_1687 : Cond.selects RX4 yX4_findReserved yX4_findReserved ∈ GW := gw_in (List.mem_append_left _ (List.mem_of_getElem? (i := 4) (by decide +kernel))) rfl
theorem mw_1688 : Cond.selects RX7 yX7_readLine yX7_readLine ∈ GW := gw_in (List.mem_append_left _ (List.mem_of_getElem? (i := 5) (by decide +kernel))) rfl
theorem mw_1689 : Cond.selects RX7 yX7_readRest yX7_readRest ∈ GW := gw_in (List.mem_append_left _ (List.mem_of_getElem? (i := 6) (by decide +kernel))) rfl
theorem mw_1690 : Cond.selects RX7 yX7_readPair yX7_readPair ∈ GW := gw_in (List.mem_append_left _ (List.mem_of_getElem? (i := 7) (by decide +kernel))) rfl
theorem mw_1691 : Cond.selects RX7 yX7_mirrorWays yX7_mirrorWays ∈ GW := gw_in (List.mem_append_left _ (List.mem_of_getElem? (i := 8) (by decide +kernel))) rfl
theorem mw_1692 : Cond.selects RX7 yX7_readRain yX7_readRain ∈ GW := gw_in (List.mem_append_left _ (List.mem_of_getElem? (i := 9) (by decide +kernel))) rfl
theorem mw_1693 : Cond.selects RX7 yX7_readParrot yX7_readParrot ∈ GW := gw_in (List.mem_append_left _ (List.mem_of_getElem? (i := 10) (by decide +kernel))) rfl
theorem mw_1694 : Cond.selects RX7 yX7_readName yX7_readName ∈ GW := gw_in (List.mem_append_left _ (List.mem_of_getElem? (i := 11) (by decide +kernel))) rfl
theorem mw_1695 : Cond.selects RX7 yX7_readSkills yX7_readSkills ∈ GW := gw_in (List.mem_append_left _ (List.mem_of_getElem? (i := 12) (by decide +kernel))) rfl
theorem mw_1696 : Cond.selects RX6 yX6_shortest yX6_shortest ∈ GW := gw_in (List.mem_append_left _ (List.mem_of_getElem? (i := 13) (by decide +kernel))) rfl
theorem mw_1697 : Cond.selects RX9 yX9_readCond yX9_readCond ∈ GW := gw_in (List.mem_append_left _ (List.mem_of_getElem? (i := 14) (by decide +kernel))) rfl
theorem mw_1698 : Cond.selects RX9 yX9_readAll yX9_readAll ∈ GW := gw_in (List.mem_append_left _ (List.mem_of_getElem? (i := 15) (by decide +kernel))) rfl
theorem mw_1699 : Cond.selects RX9 yX9_readOne yX9_readOne ∈ GW := gw_in (List.mem_append_left _ (List.mem_of_getElem? (i := 16) (by decide +kernel))) rfl
theorem mw_1700 : Cond.selects RX9 yX9_readPlain yX9_readPlain ∈ GW := gw_in (List.mem_append_left _ (List.mem_of_getElem? (i := 17) (by decide +kernel))) rfl
theorem mw_1701 : Cond.selects RX8 yX8_portsOfStep yX8_portsOfStep ∈ GW := gw_in (List.mem_append_left _ (List.mem_of_getElem? (i := 18) (by decide +kernel))) rfl
theorem mw_1702 : Cond.selects RX8 yX8_holds yX8_holds ∈ GW := gw_in (List.mem_append_left _ (List.mem_of_getElem? (i := 19) (by decide +kernel))) rfl
theorem mw_1703 : Cond.selects RX8 yX8_compares yX8_compares ∈ GW := gw_in (List.mem_append_left _ (List.mem_of_getElem? (i := 20) (by decide +kernel))) rfl
theorem mw_1704 : Cond.selects RX2 yX2_readLine yX2_readLine ∈ GW := gw_in (List.mem_append_left _ (List.mem_of_getElem? (i := 21) (by decide +kernel))) rfl
theorem mw_1705 : Cond.selects RX2 yX2_passLearns yX2_passLearns ∈ GW := gw_in (List.mem_append_left _ (List.mem_of_getElem? (i := 22) (by decide +kernel))) rfl
theorem mw_1706 : Cond.selects RX2 yX2_lookObject yX2_lookObject ∈ GW := gw_in (List.mem_append_left _ (List.mem_of_getElem? (i := 23) (by decide +kernel))) rfl
theorem mw_1707 : Cond.selects RX2 yX2_liveLine yX2_liveLine ∈ GW := gw_in (List.mem_append_left _ (List.mem_of_getElem? (i := 24) (by decide +kernel))) rfl
theorem mw_1708 : Cond.selects RX10 yX10_knowers yX10_knowers ∈ GW := gw_in (List.mem_append_left _ (List.mem_of_getElem? (i := 25) (by decide +kernel))) rfl
theorem mw_1709 : Cond.selects RX10 yX10_isLate yX10_isLate ∈ GW := gw_in (List.mem_append_left _ (List.mem_of_getElem? (i := 26) (by decide +kernel))) rfl
theorem mw_1710 : Cond.selects RX10 yX10_beSeen yX10_beSeen ∈ GW := gw_in (List.mem_append_left _ (List.mem_of_getElem? (i := 27) (by decide +kernel))) rfl
theorem mw_1711 : Cond.selects RX11 yX11_keepTrial yX11_keepTrial ∈ GW := gw_in (List.mem_append_left _ (List.mem_of_getElem? (i := 28) (by decide +kernel))) rfl
theorem mw_1712 : Cond.selects RX11 yX11_forgetOldest yX11_forgetOldest ∈ GW := gw_in (List.mem_append_left _ (List.mem_of_getElem? (i := 29) (by decide +kernel))) rfl
theorem mw_1713 : Cond.selects RX0 yX0_giveFrom yX0_giveFrom ∈ GW := gw_in (List.mem_append_left _ (List.mem_of_getElem? (i := 30) (by decide +kernel))) rfl
theorem mw_1714 : Cond.selects RX0 yX0_isFree yX0_isFree ∈ GW := gw_in (List.mem_append_left _ (List.mem_of_getElem? (i := 31) (by decide +kernel))) rfl
theorem mw_1715 : Cond.selects RX5 yX5_findApart yX5_findApart ∈ GW := gw_in (List.mem_append_left _ (List.mem_of_getElem? (i := 32) (by decide +kernel))) rfl
theorem mw_1716 : Cond.selects RX5 yX5_mostApart yX5_mostApart ∈ GW := gw_in (List.mem_append_left _ (List.mem_of_getElem? (i := 33) (by decide +kernel))) rfl
theorem mw_1717 : Cond.selects RX5 yX5_areApart yX5_areApart ∈ GW := gw_in (List.mem_append_left _ (List.mem_of_getElem? (i := 34) (by decide +kernel))) rfl
theorem mw_1718 : Cond.selects RX10 yX10_firstFitting yX10_firstFitting ∈ GW := gw_in (List.mem_append_left _ (List.mem_of_getElem? (i := 35) (by decide +kernel))) rfl
theorem mw_1719 : Cond.selects RX11 yX11_keepIfDone yX11_keepIfDone ∈ GW := gw_in (List.mem_append_left _ (List.mem_of_getElem? (i := 36) (by decide +kernel))) rfl
theorem mw_1720 : Cond.selects RX10 yX10_drawVoyage yX10_drawVoyage ∈ GW := gw_in (List.mem_append_left _ (List.mem_of_getElem? (i := 37) (by decide +kernel))) rfl
theorem mw_1721 : Cond.selects RX10 yX10_draw yX10_draw ∈ GW := gw_in (List.mem_append_left _ (List.mem_of_getElem? (i := 38) (by decide +kernel))) rfl
theorem mw_1722 : Cond.selects "java/lang/Throwable" ⟨"java/lang/Throwable", "fillInStackTrace", "(I)Ljava/lang/Throwable;"⟩ ⟨"java/lang/Throwable", "fillInStackTrace", "(I)Ljava/lang/Throwable;"⟩ ∈ GW := gw_in (List.mem_append_left _ (List.mem_of_getElem? (i := 39) (by decide +kernel))) rfl
theorem mw_1723 : Cond.selects RX12 yX12_four yX12_four ∈ GW := gw_in (List.mem_append_left _ (List.mem_of_getElem? (i := 40) (by decide +kernel))) rfl
theorem mw_1724 : Cond.selects RX12 yX12_begins yX12_begins ∈ GW := gw_in (List.mem_append_left _ (List.mem_of_getElem? (i := 41) (by decide +kernel))) rfl
theorem mw_1725 : Cond.selects RX12 yX12_isSea yX12_isSea ∈ GW := gw_in (List.mem_append_left _ (List.mem_of_getElem? (i := 42) (by decide +kernel))) rfl
theorem mw_1726 : Cond.selects RX12 yX12_waysOf yX12_waysOf ∈ GW := gw_in (List.mem_append_left _ (List.mem_of_getElem? (i := 43) (by decide +kernel))) rfl
theorem mw_1727 : Cond.selects RX12 yX12_taken yX12_taken ∈ GW := gw_in (List.mem_append_left _ (List.mem_of_getElem? (i := 44) (by decide +kernel))) rfl
theorem mw_1728 : Cond.selects RX12 yX12_next yX12_next ∈ GW := gw_in (List.mem_append_left _ (List.mem_of_getElem? (i := 45) (by decide +kernel))) rfl
theorem mw_1729 : Cond.selects RX12 yX12_peek yX12_peek ∈ GW := gw_in (List.mem_append_left _ (List.mem_of_getElem? (i := 46) (by decide +kernel))) rfl
theorem mw_1730 : Cond.selects RX12 yX12_line yX12_line ∈ GW := gw_in (List.mem_append_left _ (List.mem_of_getElem? (i := 47) (by decide +kernel))) rfl
theorem mw_1731 : Cond.selects RX12 yX12_isWord yX12_isWord ∈ GW := gw_in (List.mem_append_left _ (List.mem_of_getElem? (i := 48) (by decide +kernel))) rfl
theorem mw_1732 : Cond.selects RX12 yX12_tells yX12_tells ∈ GW := gw_in (List.mem_append_left _ (List.mem_of_getElem? (i := 49) (by decide +kernel))) rfl
theorem mw_1733 : Cond.selects RX12 yX12_bad yX12_bad ∈ GW := gw_in (List.mem_append_left _ (List.mem_of_getElem? (i := 50) (by decide +kernel))) rfl
theorem mw_1734 : Cond.selects RX12 yX12_fresh yX12_fresh ∈ GW := gw_in (List.mem_append_left _ (List.mem_of_getElem? (i := 51) (by decide +kernel))) rfl
theorem mw_1735 : Cond.selects RX12 yX12_isName yX12_isName ∈ GW := gw_in (List.mem_append_left _ (List.mem_of_getElem? (i := 52) (by decide +kernel))) rfl
theorem mw_1736 : Cond.selects RX12 yX12_find yX12_find ∈ GW := gw_in (List.mem_append_left _ (List.mem_of_getElem? (i := 53) (by decide +kernel))) rfl
theorem mw_1737 : Cond.selects RX12 yX12_readWay yX12_readWay ∈ GW := gw_in (List.mem_append_left _ (List.mem_of_getElem? (i := 54) (by decide +kernel))) rfl
theorem mw_1738 : Cond.selects RX12 yX12_takesName yX12_takesName ∈ GW := gw_in (List.mem_append_left _ (List.mem_of_getElem? (i := 55) (by decide +kernel))) rfl
theorem mw_1739 : Cond.selects RX12 yX12_looksAt yX12_looksAt ∈ GW := gw_in (List.mem_append_left _ (List.mem_of_getElem? (i := 56) (by decide +kernel))) rfl
theorem mw_1740 : Cond.selects RX12 yX12_takes yX12_takes ∈ GW := gw_in (List.mem_append_left _ (List.mem_of_getElem? (i := 57) (by decide +kernel))) rfl
theorem mw_1741 : Cond.selects RX12 yX12_readPrice yX12_readPrice ∈ GW := gw_in (List.mem_append_left _ (List.mem_of_getElem? (i := 58) (by decide +kernel))) rfl
theorem mw_1742 : Cond.selects RX12 yX12_readMan yX12_readMan ∈ GW := gw_in (List.mem_append_left _ (List.mem_of_getElem? (i := 59) (by decide +kernel))) rfl
theorem mw_1743 : Cond.selects RX12 yX12_isSign yX12_isSign ∈ GW := gw_in (List.mem_append_left _ (List.mem_of_getElem? (i := 60) (by decide +kernel))) rfl
theorem mw_1744 : Cond.selects RX12 yX12_takesRole yX12_takesRole ∈ GW := gw_in (List.mem_append_left _ (List.mem_of_getElem? (i := 61) (by decide +kernel))) rfl
theorem mw_1745 : Cond.selects RX12 yX12_readRain yX12_readRain ∈ GW := gw_in (List.mem_append_left _ (List.mem_of_getElem? (i := 62) (by decide +kernel))) rfl
theorem mw_1746 : Cond.selects RX12 yX12_sign yX12_sign ∈ GW := gw_in (List.mem_append_left _ (List.mem_of_getElem? (i := 63) (by decide +kernel))) rfl
theorem mw_1747 : Cond.selects RX12 yX12_isPort yX12_isPort ∈ GW := gw_in (List.mem_append_left _ (List.mem_of_getElem? (i := 64) (by decide +kernel))) rfl
theorem mw_1748 : Cond.selects RX12 yX12_throwsIf yX12_throwsIf ∈ GW := gw_in (List.mem_append_left _ (List.mem_of_getElem? (i := 65) (by decide +kernel))) rfl
theorem mw_1749 : Cond.selects RX12 yX12_knownAt yX12_knownAt ∈ GW := gw_in (List.mem_append_left _ (List.mem_of_getElem? (i := 66) (by decide +kernel))) rfl
theorem mw_1750 : Cond.selects RX12 yX12_knowsFrom yX12_knowsFrom ∈ GW := gw_in (List.mem_append_left _ (List.mem_of_getElem? (i := 67) (by decide +kernel))) rfl
theorem mw_1751 : Cond.selects RX12 yX12_isRain yX12_isRain ∈ GW := gw_in (List.mem_append_left _ (List.mem_of_getElem? (i := 68) (by decide +kernel))) rfl
theorem mw_1752 : Cond.selects RX12 yX12_told yX12_told ∈ GW := gw_in (List.mem_append_left _ (List.mem_of_getElem? (i := 69) (by decide +kernel))) rfl
theorem mw_1753 : Cond.selects RX12 yX12_isShip yX12_isShip ∈ GW := gw_in (List.mem_append_left _ (List.mem_of_getElem? (i := 70) (by decide +kernel))) rfl
theorem mw_1754 : Cond.selects RX12 yX12_owed yX12_owed ∈ GW := gw_in (List.mem_append_left _ (List.mem_of_getElem? (i := 71) (by decide +kernel))) rfl
theorem mw_1755 : Cond.selects RX12 yX12_whyPaint yX12_whyPaint ∈ GW := gw_in (List.mem_append_left _ (List.mem_of_getElem? (i := 72) (by decide +kernel))) rfl
theorem mw_1756 : Cond.selects RX12 yX12_canAct yX12_canAct ∈ GW := gw_in (List.mem_append_left _ (List.mem_of_getElem? (i := 73) (by decide +kernel))) rfl
theorem mw_1757 : Cond.selects RX12 yX12_lacksOf yX12_lacksOf ∈ GW := gw_in (List.mem_append_left _ (List.mem_of_getElem? (i := 74) (by decide +kernel))) rfl
theorem mw_1758 : Cond.selects RX12 yX12_casts yX12_casts ∈ GW := gw_in (List.mem_append_left _ (List.mem_of_getElem? (i := 75) (by decide +kernel))) rfl
theorem mw_1759 : Cond.selects RX12 yX12_costOf yX12_costOf ∈ GW := gw_in (List.mem_append_left _ (List.mem_of_getElem? (i := 76) (by decide +kernel))) rfl
theorem mw_1760 : Cond.selects RX12 yX12_late yX12_late ∈ GW := gw_in (List.mem_append_left _ (List.mem_of_getElem? (i := 77) (by decide +kernel))) rfl
theorem mw_1761 : Cond.selects RX12 yX12_keep yX12_keep ∈ GW := gw_in (List.mem_append_left _ (List.mem_of_getElem? (i := 78) (by decide +kernel))) rfl
theorem mw_1762 : Cond.selects RX12 yX12_paints yX12_paints ∈ GW := gw_in (List.mem_append_left _ (List.mem_of_getElem? (i := 79) (by decide +kernel))) rfl
theorem mw_1763 : Cond.selects RX12 yX12_whySail yX12_whySail ∈ GW := gw_in (List.mem_append_left _ (List.mem_of_getElem? (i := 80) (by decide +kernel))) rfl
theorem mw_1764 : Cond.selects RX12 yX12_sails yX12_sails ∈ GW := gw_in (List.mem_append_left _ (List.mem_of_getElem? (i := 81) (by decide +kernel))) rfl
theorem mw_1765 : Cond.selects RX12 yX12_learnsName yX12_learnsName ∈ GW := gw_in (List.mem_append_left _ (List.mem_of_getElem? (i := 82) (by decide +kernel))) rfl
theorem mw_1766 : Cond.selects RX12 yX12_whyWait yX12_whyWait ∈ GW := gw_in (List.mem_append_left _ (List.mem_of_getElem? (i := 83) (by decide +kernel))) rfl
theorem mw_1767 : Cond.selects RX12 yX12_whyTake yX12_whyTake ∈ GW := gw_in (List.mem_append_left _ (List.mem_of_getElem? (i := 84) (by decide +kernel))) rfl
theorem mw_1768 : Cond.selects RX12 yX12_takesAll yX12_takesAll ∈ GW := gw_in (List.mem_append_left _ (List.mem_of_getElem? (i := 85) (by decide +kernel))) rfl
theorem mw_1769 : Cond.selects RX12 yX12_isMan yX12_isMan ∈ GW := gw_in (List.mem_append_left _ (List.mem_of_getElem? (i := 86) (by decide +kernel))) rfl
theorem mw_1770 : Cond.selects RX12 yX12_whyLearn yX12_whyLearn ∈ GW := gw_in (List.mem_append_left _ (List.mem_of_getElem? (i := 87) (by decide +kernel))) rfl
theorem mw_1771 : Cond.selects RX12 yX12_learns yX12_learns ∈ GW := gw_in (List.mem_append_left _ (List.mem_of_getElem? (i := 88) (by decide +kernel))) rfl
theorem mw_1772 : Cond.selects RX12 yX12_doesHear yX12_doesHear ∈ GW := gw_in (List.mem_append_left _ (List.mem_of_getElem? (i := 89) (by decide +kernel))) rfl
theorem mw_1773 : Cond.selects RX12 yX12_fewestNames yX12_fewestNames ∈ GW := gw_in (List.mem_append_left _ (List.mem_of_getElem? (i := 90) (by decide +kernel))) rfl
theorem mw_1774 : Cond.selects RX12 yX12_givesBy yX12_givesBy ∈ GW := gw_in (List.mem_append_left _ (List.mem_of_getElem? (i := 91) (by decide +kernel))) rfl
theorem mw_1775 : Cond.selects RX12 yX12_fits yX12_fits ∈ GW := gw_in (List.mem_append_left _ (List.mem_of_getElem? (i := 92) (by decide +kernel))) rfl
theorem mw_1776 : Cond.selects RX12 yX12_octet yX12_octet ∈ GW := gw_in (List.mem_append_left _ (List.mem_of_getElem? (i := 93) (by decide +kernel))) rfl
theorem mw_1777 : Cond.selects RX12 yX12_canFollow yX12_canFollow ∈ GW := gw_in (List.mem_append_left _ (List.mem_of_getElem? (i := 94) (by decide +kernel))) rfl
theorem mw_1778 : Cond.selects RX12 yX12_overOf yX12_overOf ∈ GW := gw_in (List.mem_append_left _ (List.mem_of_getElem? (i := 95) (by decide +kernel))) rfl
theorem mw_1779 : Cond.selects RX12 yX12_soonestOf yX12_soonestOf ∈ GW := gw_in (List.mem_append_left _ (List.mem_of_getElem? (i := 96) (by decide +kernel))) rfl
theorem mw_1780 : Cond.selects RX12 yX12_draws yX12_draws ∈ GW := gw_in (List.mem_append_left _ (List.mem_of_getElem? (i := 97) (by decide +kernel))) rfl
theorem mw_1781 : Cond.selects RX12 yX12_draw yX12_draw ∈ GW := gw_in (List.mem_append_left _ (List.mem_of_getElem? (i := 98) (by decide +kernel))) rfl
theorem mw_1782 : Cond.selects RX12 yX12_tries yX12_tries ∈ GW := gw_in (List.mem_append_left _ (List.mem_of_getElem? (i := 99) (by decide +kernel))) rfl
theorem mw_1783 : Cond.selects RX12 yX12_back yX12_back ∈ GW := gw_in (List.mem_append_left _ (List.mem_of_getElem? (i := 100) (by decide +kernel))) rfl
theorem mw_1784 : Cond.selects RX12 yX12_logLine yX12_logLine ∈ GW := gw_in (List.mem_append_left _ (List.mem_of_getElem? (i := 101) (by decide +kernel))) rfl
theorem mw_1785 : Cond.selects RX12 yX12_does yX12_does ∈ GW := gw_in (List.mem_append_left _ (List.mem_of_getElem? (i := 102) (by decide +kernel))) rfl
theorem mw_1786 : Cond.selects RX12 yX12_nots yX12_nots ∈ GW := gw_in (List.mem_append_left _ (List.mem_of_getElem? (i := 103) (by decide +kernel))) rfl
theorem mw_1787 : Cond.selects RX12 yX12_code yX12_code ∈ GW := gw_in (List.mem_append_left _ (List.mem_of_getElem? (i := 104) (by decide +kernel))) rfl
theorem mw_1788 : Cond.selects RX12 yX12_joins yX12_joins ∈ GW := gw_in (List.mem_append_left _ (List.mem_of_getElem? (i := 105) (by decide +kernel))) rfl
theorem mw_1789 : Cond.selects RX12 yX12_behind yX12_behind ∈ GW := gw_in (List.mem_append_left _ (List.mem_of_getElem? (i := 106) (by decide +kernel))) rfl
theorem mw_1790 : Cond.selects RX12 yX12_operand yX12_operand ∈ GW := gw_in (List.mem_append_left _ (List.mem_of_getElem? (i := 107) (by decide +kernel))) rfl
theorem mw_1791 : Cond.selects RX12 yX12_leafOf yX12_leafOf ∈ GW := gw_in (List.mem_append_left _ (List.mem_of_getElem? (i := 108) (by decide +kernel))) rfl
theorem mw_1792 : Cond.selects RX12 yX12_isSaid yX12_isSaid ∈ GW := gw_in (List.mem_append_left _ (List.mem_of_getElem? (i := 109) (by decide +kernel))) rfl
theorem mw_1793 : Cond.selects RX12 yX12_isLeaf yX12_isLeaf ∈ GW := gw_in (List.mem_append_left _ (List.mem_of_getElem? (i := 110) (by decide +kernel))) rfl
theorem mw_1794 : Cond.selects RX12 yX12_isSafe yX12_isSafe ∈ GW := gw_in (List.mem_append_left _ (List.mem_of_getElem? (i := 111) (by decide +kernel))) rfl
theorem cfw_0 : ∀ w ∈ u_ws RX0 TX0 2, w ∈ GW := by
  rw [show u_ws RX0 TX0 2 = [Cond.laysFinal RX0 "FalseName$Allotment" "sea" "LFalseName$Sea;", Cond.laysFinal RX0 "FalseName$Allotment" "name" "[I"] by decide +kernel]
  exact List.forall_mem_cons.mpr ⟨mw_329, List.forall_mem_cons.mpr ⟨mw_330, fun _ h => absurd h List.not_mem_nil⟩⟩
theorem cfw_1 : ∀ w ∈ u_ws RX1 TX1 3, w ∈ GW := by
  rw [show u_ws RX1 TX1 3 = [Cond.laysFinal RX1 "FalseName$Image" "sea" "LFalseName$Sea;", Cond.laysFinal RX1 "FalseName$Image" "her" "LFalseName$Ship;", Cond.laysFinal RX1 "FalseName$Image" "sentence" "LFalseName$Sentence;"] by decide +kernel]
  exact List.forall_mem_cons.mpr ⟨mw_1039, List.forall_mem_cons.mpr ⟨mw_1040, List.forall_mem_cons.mpr ⟨mw_1041, fun _ h => absurd h List.not_mem_nil⟩⟩⟩
theorem cfw_2 : ∀ w ∈ u_ws RX2 TX2 11, w ∈ GW := by
  rw [show u_ws RX2 TX2 11 = [Cond.laysFinal RX2 "FalseName$Log" "reader" "LFalseName$Reader;", Cond.laysFinal RX2 "FalseName$Log" "names" "LFalseName$NameTable;", Cond.laysFinal RX2 "FalseName$Log" "act" "[I", Cond.laysFinal RX2 "FalseName$Log" "what" "[I", Cond.laysFinal RX2 "FalseName$Log" "who" "[I", Cond.lays RX2 "FalseName$Log" "lines" "I", Cond.lays RX2 "FalseName$Log" "judged" "Z", Cond.lays RX2 "FalseName$Log" "why" "I", Cond.lays RX2 "FalseName$Log" "right" "I", Cond.lays RX2 "FalseName$Log" "day" "I", Cond.lays RX2 "FalseName$Log" "caught" "Z"] by decide +kernel]
  exact List.forall_mem_cons.mpr ⟨mw_259, List.forall_mem_cons.mpr ⟨mw_260, List.forall_mem_cons.mpr ⟨mw_261, List.forall_mem_cons.mpr ⟨mw_262, List.forall_mem_cons.mpr ⟨mw_263, List.forall_mem_cons.mpr ⟨mw_264, List.forall_mem_cons.mpr ⟨mw_265, List.forall_mem_cons.mpr ⟨mw_266, List.forall_mem_cons.mpr ⟨mw_267, List.forall_mem_cons.mpr ⟨mw_268, List.forall_mem_cons.mpr ⟨mw_269, fun _ h => absurd h List.not_mem_nil⟩⟩⟩⟩⟩⟩⟩⟩⟩⟩⟩
theorem cfw_3 : ∀ w ∈ u_ws RX3 TX3 4, w ∈ GW := by
  rw [show u_ws RX3 TX3 4 = [Cond.laysFinal RX3 "FalseName$NameTable" "word" "[J", Cond.laysFinal RX3 "FalseName$NameTable" "sort" "[I", Cond.laysFinal RX3 "FalseName$NameTable" "number" "[I", Cond.lays RX3 "FalseName$NameTable" "size" "I"] by decide +kernel]
  exact List.forall_mem_cons.mpr ⟨mw_134, List.forall_mem_cons.mpr ⟨mw_135, List.forall_mem_cons.mpr ⟨mw_136, List.forall_mem_cons.mpr ⟨mw_137, fun _ h => absurd h List.not_mem_nil⟩⟩⟩⟩
theorem cfw_4 : ∀ w ∈ u_ws RX4 TX4 12, w ∈ GW := by
  rw [show u_ws RX4 TX4 12 = [Cond.laysFinal RX4 "FalseName$Reader" "text" "[B", Cond.laysFinal RX4 "FalseName$Reader" "reserved" "[J", Cond.lays RX4 "FalseName$Reader" "size" "I", Cond.lays RX4 "FalseName$Reader" "stop" "I", Cond.lays RX4 "FalseName$Reader" "at" "I", Cond.lays RX4 "FalseName$Reader" "sort" "I", Cond.lays RX4 "FalseName$Reader" "start" "I", Cond.lays RX4 "FalseName$Reader" "word" "J", Cond.lays RX4 "FalseName$Reader" "key" "I", Cond.lays RX4 "FalseName$Reader" "value" "I", Cond.lays RX4 "FalseName$Reader" "fault" "I", Cond.lays RX4 "FalseName$Reader" "place" "I"] by decide +kernel]
  exact List.forall_mem_cons.mpr ⟨mw_105, List.forall_mem_cons.mpr ⟨mw_106, List.forall_mem_cons.mpr ⟨mw_107, List.forall_mem_cons.mpr ⟨mw_108, List.forall_mem_cons.mpr ⟨mw_109, List.forall_mem_cons.mpr ⟨mw_110, List.forall_mem_cons.mpr ⟨mw_111, List.forall_mem_cons.mpr ⟨mw_112, List.forall_mem_cons.mpr ⟨mw_113, List.forall_mem_cons.mpr ⟨mw_114, List.forall_mem_cons.mpr ⟨mw_115, List.forall_mem_cons.mpr ⟨mw_116, fun _ h => absurd h List.not_mem_nil⟩⟩⟩⟩⟩⟩⟩⟩⟩⟩⟩⟩
theorem cfw_5 : ∀ w ∈ u_ws RX5 TX5 3, w ∈ GW := by
  rw [show u_ws RX5 TX5 3 = [Cond.laysFinal RX5 "FalseName$Register" "sea" "LFalseName$Sea;", Cond.laysFinal RX5 "FalseName$Register" "tape" "[B", Cond.laysFinal RX5 "FalseName$Register" "apart" "[I"] by decide +kernel]
  exact List.forall_mem_cons.mpr ⟨mw_340, List.forall_mem_cons.mpr ⟨mw_341, List.forall_mem_cons.mpr ⟨mw_342, fun _ h => absurd h List.not_mem_nil⟩⟩⟩
theorem cfw_6 : ∀ w ∈ u_ws RX6 TX6 13, w ∈ GW := by
  rw [show u_ws RX6 TX6 13 = [Cond.laysFinal RX6 "FalseName$Sea" "names" "LFalseName$NameTable;", Cond.laysFinal RX6 "FalseName$Sea" "many" "[I", Cond.lays RX6 "FalseName$Sea" "parrot" "I", Cond.laysFinal RX6 "FalseName$Sea" "ways" "[I", Cond.laysFinal RX6 "FalseName$Sea" "mails" "[I", Cond.laysFinal RX6 "FalseName$Sea" "wanted" "[I", Cond.laysFinal RX6 "FalseName$Sea" "owed" "[I", Cond.laysFinal RX6 "FalseName$Sea" "needed" "[I", Cond.laysFinal RX6 "FalseName$Sea" "skills" "[I", Cond.laysFinal RX6 "FalseName$Sea" "rains" "[I", Cond.laysFinal RX6 "FalseName$Sea" "roles" "[I", Cond.laysFinal RX6 "FalseName$Sea" "far" "[I", Cond.laysFinal RX6 "FalseName$Sea" "post" "[I"] by decide +kernel]
  exact List.forall_mem_cons.mpr ⟨mw_183, List.forall_mem_cons.mpr ⟨mw_184, List.forall_mem_cons.mpr ⟨mw_185, List.forall_mem_cons.mpr ⟨mw_186, List.forall_mem_cons.mpr ⟨mw_187, List.forall_mem_cons.mpr ⟨mw_188, List.forall_mem_cons.mpr ⟨mw_189, List.forall_mem_cons.mpr ⟨mw_190, List.forall_mem_cons.mpr ⟨mw_191, List.forall_mem_cons.mpr ⟨mw_192, List.forall_mem_cons.mpr ⟨mw_193, List.forall_mem_cons.mpr ⟨mw_194, List.forall_mem_cons.mpr ⟨mw_195, fun _ h => absurd h List.not_mem_nil⟩⟩⟩⟩⟩⟩⟩⟩⟩⟩⟩⟩⟩
theorem cfw_7 : ∀ w ∈ u_ws RX7 TX7 3, w ∈ GW := by
  rw [show u_ws RX7 TX7 3 = [Cond.laysFinal RX7 "FalseName$SeaReader" "reader" "LFalseName$Reader;", Cond.laysFinal RX7 "FalseName$SeaReader" "sea" "LFalseName$Sea;", Cond.lays RX7 "FalseName$SeaReader" "parrotTold" "Z"] by decide +kernel]
  exact List.forall_mem_cons.mpr ⟨mw_205, List.forall_mem_cons.mpr ⟨mw_206, List.forall_mem_cons.mpr ⟨mw_207, fun _ h => absurd h List.not_mem_nil⟩⟩⟩
theorem cfw_8 : ∀ w ∈ u_ws RX8 TX8 5, w ∈ GW := by
  rw [show u_ws RX8 TX8 5 = [Cond.laysFinal RX8 "FalseName$Sentence" "step" "[I", Cond.laysFinal RX8 "FalseName$Sentence" "sign" "[I", Cond.laysFinal RX8 "FalseName$Sentence" "value" "[I", Cond.lays RX8 "FalseName$Sentence" "length" "I", Cond.laysFinal RX8 "FalseName$Sentence" "pile" "[I"] by decide +kernel]
  exact List.forall_mem_cons.mpr ⟨mw_218, List.forall_mem_cons.mpr ⟨mw_219, List.forall_mem_cons.mpr ⟨mw_220, List.forall_mem_cons.mpr ⟨mw_221, List.forall_mem_cons.mpr ⟨mw_222, fun _ h => absurd h List.not_mem_nil⟩⟩⟩⟩⟩
theorem cfw_9 : ∀ w ∈ u_ws RX9 TX9 4, w ∈ GW := by
  rw [show u_ws RX9 TX9 4 = [Cond.laysFinal RX9 "FalseName$SentenceReader" "reader" "LFalseName$Reader;", Cond.laysFinal RX9 "FalseName$SentenceReader" "names" "LFalseName$NameTable;", Cond.laysFinal RX9 "FalseName$SentenceReader" "draft" "LFalseName$Sentence;", Cond.lays RX9 "FalseName$SentenceReader" "ones" "I"] by decide +kernel]
  exact List.forall_mem_cons.mpr ⟨mw_233, List.forall_mem_cons.mpr ⟨mw_234, List.forall_mem_cons.mpr ⟨mw_235, List.forall_mem_cons.mpr ⟨mw_236, fun _ h => absurd h List.not_mem_nil⟩⟩⟩⟩
theorem cfw_10 : ∀ w ∈ u_ws RX10 TX10 14, w ∈ GW := by
  rw [show u_ws RX10 TX10 14 = [Cond.laysFinal RX10 "FalseName$Ship" "sea" "LFalseName$Sea;", Cond.lays RX10 "FalseName$Ship" "day" "I", Cond.lays RX10 "FalseName$Ship" "port" "I", Cond.lays RX10 "FalseName$Ship" "name" "I", Cond.lays RX10 "FalseName$Ship" "before" "I", Cond.lays RX10 "FalseName$Ship" "coin" "I", Cond.lays RX10 "FalseName$Ship" "caught" "Z", Cond.lays RX10 "FalseName$Ship" "had" "I", Cond.lays RX10 "FalseName$Ship" "voyages" "I", Cond.laysFinal RX10 "FalseName$Ship" "came" "[I", Cond.laysFinal RX10 "FalseName$Ship" "taken" "[I", Cond.laysFinal RX10 "FalseName$Ship" "skills" "[I", Cond.laysFinal RX10 "FalseName$Ship" "known" "[I", Cond.lays RX10 "FalseName$Ship" "seed" "I"] by decide +kernel]
  exact List.forall_mem_cons.mpr ⟨mw_305, List.forall_mem_cons.mpr ⟨mw_306, List.forall_mem_cons.mpr ⟨mw_307, List.forall_mem_cons.mpr ⟨mw_308, List.forall_mem_cons.mpr ⟨mw_309, List.forall_mem_cons.mpr ⟨mw_310, List.forall_mem_cons.mpr ⟨mw_311, List.forall_mem_cons.mpr ⟨mw_312, List.forall_mem_cons.mpr ⟨mw_313, List.forall_mem_cons.mpr ⟨mw_314, List.forall_mem_cons.mpr ⟨mw_315, List.forall_mem_cons.mpr ⟨mw_316, List.forall_mem_cons.mpr ⟨mw_317, List.forall_mem_cons.mpr ⟨mw_318, fun _ h => absurd h List.not_mem_nil⟩⟩⟩⟩⟩⟩⟩⟩⟩⟩⟩⟩⟩⟩
theorem cfw_11 : ∀ w ∈ u_ws RX11 TX11 18, w ∈ GW := by
  rw [show u_ws RX11 TX11 18 = [Cond.laysFinal RX11 "FalseName" "tape" "[B", Cond.lays RX11 "FalseName" "tapeSize" "I", Cond.laysFinal RX11 "FalseName" "reader" "LFalseName$Reader;", Cond.lays RX11 "FalseName" "latestFault" "I", Cond.laysFinal RX11 "FalseName" "sea" "LFalseName$Sea;", Cond.laysFinal RX11 "FalseName" "draftSea" "LFalseName$Sea;", Cond.laysFinal RX11 "FalseName" "seaReader" "LFalseName$SeaReader;", Cond.laysFinal RX11 "FalseName" "sentence" "LFalseName$Sentence;", Cond.laysFinal RX11 "FalseName" "draftSentence" "LFalseName$Sentence;", Cond.laysFinal RX11 "FalseName" "sentenceReader" "LFalseName$SentenceReader;", Cond.laysFinal RX11 "FalseName" "log" "LFalseName$Log;", Cond.lays RX11 "FalseName" "her" "LFalseName$Ship;", Cond.lays RX11 "FalseName" "trial" "LFalseName$Ship;", Cond.laysFinal RX11 "FalseName" "past" "[LFalseName$Ship;", Cond.lays RX11 "FalseName" "pastCount" "I", Cond.laysFinal RX11 "FalseName" "images" "[LFalseName$Image;", Cond.laysFinal RX11 "FalseName" "allotment" "LFalseName$Allotment;", Cond.laysFinal RX11 "FalseName" "register" "LFalseName$Register;"] by decide +kernel]
  exact List.forall_mem_cons.mpr ⟨mw_382, List.forall_mem_cons.mpr ⟨mw_383, List.forall_mem_cons.mpr ⟨mw_384, List.forall_mem_cons.mpr ⟨mw_385, List.forall_mem_cons.mpr ⟨mw_386, List.forall_mem_cons.mpr ⟨mw_387, List.forall_mem_cons.mpr ⟨mw_388, List.forall_mem_cons.mpr ⟨mw_389, List.forall_mem_cons.mpr ⟨mw_390, List.forall_mem_cons.mpr ⟨mw_391, List.forall_mem_cons.mpr ⟨mw_392, List.forall_mem_cons.mpr ⟨mw_393, List.forall_mem_cons.mpr ⟨mw_394, List.forall_mem_cons.mpr ⟨mw_395, List.forall_mem_cons.mpr ⟨mw_396, List.forall_mem_cons.mpr ⟨mw_397, List.forall_mem_cons.mpr ⟨mw_398, List.forall_mem_cons.mpr ⟨mw_399, fun _ h => absurd h List.not_mem_nil⟩⟩⟩⟩⟩⟩⟩⟩⟩⟩⟩⟩⟩⟩⟩⟩⟩⟩
theorem cfw_12 : ∀ w ∈ u_ws RX12 TX12 49, w ∈ GW := by
  rw [show u_ws RX12 TX12 49 = [Cond.lays RX12 "FalseNameModel" "thrown" "I", Cond.laysFinal RX12 "FalseNameModel" "tape" "[B", Cond.lays RX12 "FalseNameModel" "length" "I", Cond.lays RX12 "FalseNameModel" "size" "I", Cond.lays RX12 "FalseNameModel" "p" "I", Cond.lays RX12 "FalseNameModel" "limit" "I", Cond.laysFinal RX12 "FalseNameModel" "s" "[I", Cond.laysFinal RX12 "FalseNameModel" "h" "[I", Cond.laysFinal RX12 "FalseNameModel" "read" "[I", Cond.laysFinal RX12 "FalseNameModel" "names" "[J", Cond.laysFinal RX12 "FalseNameModel" "reserved" "[J", Cond.lays RX12 "FalseNameModel" "token" "I", Cond.lays RX12 "FalseNameModel" "at" "I", Cond.lays RX12 "FalseNameModel" "span" "I", Cond.lays RX12 "FalseNameModel" "number" "I", Cond.lays RX12 "FalseNameModel" "fault" "I", Cond.lays RX12 "FalseNameModel" "faultAt" "I", Cond.lays RX12 "FalseNameModel" "word" "J", Cond.lays RX12 "FalseNameModel" "got" "I", Cond.lays RX12 "FalseNameModel" "lines" "I", Cond.lays RX12 "FalseNameModel" "hasParrot" "Z", Cond.laysFinal RX12 "FalseNameModel" "far" "[I", Cond.laysFinal RX12 "FalseNameModel" "post" "[I", Cond.laysFinal RX12 "FalseNameModel" "cast" "[I", Cond.laysFinal RX12 "FalseNameModel" "needed" "[I", Cond.laysFinal RX12 "FalseNameModel" "fewest" "[I", Cond.lays RX12 "FalseNameModel" "parts" "I", Cond.laysFinal RX12 "FalseNameModel" "undone" "[I", Cond.laysFinal RX12 "FalseNameModel" "before" "[I", Cond.lays RX12 "FalseNameModel" "undoMany" "I", Cond.laysFinal RX12 "FalseNameModel" "given" "[I", Cond.laysFinal RX12 "FalseNameModel" "most" "[I", Cond.laysFinal RX12 "FalseNameModel" "mostThen" "[I", Cond.lays RX12 "FalseNameModel" "soonestDay" "I", Cond.lays RX12 "FalseNameModel" "soonestPort" "I", Cond.lays RX12 "FalseNameModel" "seed" "I", Cond.lays RX12 "FalseNameModel" "toldMany" "I", Cond.laysFinal RX12 "FalseNameModel" "loggedAt" "[I", Cond.lays RX12 "FalseNameModel" "hasLogged" "Z", Cond.laysFinal RX12 "FalseNameModel" "stack" "[I", Cond.lays RX12 "FalseNameModel" "codes" "I", Cond.lays RX12 "FalseNameModel" "ones" "I", Cond.lays RX12 "FalseNameModel" "top" "I", Cond.lays RX12 "FalseNameModel" "deep" "I", Cond.lays RX12 "FalseNameModel" "isWhole" "Z", Cond.laysFinal RX12 "FalseNameModel" "truths" "[Z", Cond.laysFinal RX12 "FalseNameModel" "kept" "[I", Cond.laysFinal RX12 "FalseNameModel" "namesKept" "[J", Cond.laysFinal RX12 "FalseNameModel" "areKept" "[Z"] by decide +kernel]
  exact List.forall_mem_cons.mpr ⟨mw_1235, List.forall_mem_cons.mpr ⟨mw_1236, List.forall_mem_cons.mpr ⟨mw_1237, List.forall_mem_cons.mpr ⟨mw_1238, List.forall_mem_cons.mpr ⟨mw_1239, List.forall_mem_cons.mpr ⟨mw_1240, List.forall_mem_cons.mpr ⟨mw_1241, List.forall_mem_cons.mpr ⟨mw_1242, List.forall_mem_cons.mpr ⟨mw_1243, List.forall_mem_cons.mpr ⟨mw_1244, List.forall_mem_cons.mpr ⟨mw_1245, List.forall_mem_cons.mpr ⟨mw_1246, List.forall_mem_cons.mpr ⟨mw_1247, List.forall_mem_cons.mpr ⟨mw_1248, List.forall_mem_cons.mpr ⟨mw_1249, List.forall_mem_cons.mpr ⟨mw_1250, List.forall_mem_cons.mpr ⟨mw_1251, List.forall_mem_cons.mpr ⟨mw_1252, List.forall_mem_cons.mpr ⟨mw_1253, List.forall_mem_cons.mpr ⟨mw_1254, List.forall_mem_cons.mpr ⟨mw_1255, List.forall_mem_cons.mpr ⟨mw_1256, List.forall_mem_cons.mpr ⟨mw_1257, List.forall_mem_cons.mpr ⟨mw_1258, List.forall_mem_cons.mpr ⟨mw_1259, List.forall_mem_cons.mpr ⟨mw_1260, List.forall_mem_cons.mpr ⟨mw_1261, List.forall_mem_cons.mpr ⟨mw_1262, List.forall_mem_cons.mpr ⟨mw_1263, List.forall_mem_cons.mpr ⟨mw_1264, List.forall_mem_cons.mpr ⟨mw_1265, List.forall_mem_cons.mpr ⟨mw_1266, List.forall_mem_cons.mpr ⟨mw_1267, List.forall_mem_cons.mpr ⟨mw_1268, List.forall_mem_cons.mpr ⟨mw_1269, List.forall_mem_cons.mpr ⟨mw_1270, List.forall_mem_cons.mpr ⟨mw_1271, List.forall_mem_cons.mpr ⟨mw_1272, List.forall_mem_cons.mpr ⟨mw_1273, List.forall_mem_cons.mpr ⟨mw_1274, List.forall_mem_cons.mpr ⟨mw_1275, List.forall_mem_cons.mpr ⟨mw_1276, List.forall_mem_cons.mpr ⟨mw_1277, List.forall_mem_cons.mpr ⟨mw_1278, List.forall_mem_cons.mpr ⟨mw_1279, List.forall_mem_cons.mpr ⟨mw_1280, List.forall_mem_cons.mpr ⟨mw_1281, List.forall_mem_cons.mpr ⟨mw_1282, List.forall_mem_cons.mpr ⟨mw_1283, fun _ h => absurd h List.not_mem_nil⟩⟩⟩⟩⟩⟩⟩⟩⟩⟩⟩⟩⟩⟩⟩⟩⟩⟩⟩⟩⟩⟩⟩⟩⟩⟩⟩⟩⟩⟩⟩⟩⟩⟩⟩⟩⟩⟩⟩⟩⟩⟩⟩⟩⟩⟩⟩⟩⟩
