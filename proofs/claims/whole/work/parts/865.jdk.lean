/-! SOUNDNESS, part 7b: the JDK's few methods: their words in the tables, their instructions (printed by wip/gen/gen_jdk.py) -/
def zd_y_coder : MethodName := ⟨"java/lang/String", "coder", "()B"⟩
abbrev zd_b_coder : ByteArray := prog_16_method_152_code
def zd_y_isl : MethodName := ⟨"java/lang/String", "isLatin1", "()Z"⟩
abbrev zd_b_isl : ByteArray := prog_16_method_154_code
def zd_y_len : MethodName := ⟨"java/lang/String", "length", "()I"⟩
abbrev zd_b_len : ByteArray := prog_16_method_54_code
def zd_y_cha : MethodName := ⟨"java/lang/String", "charAt", "(I)C"⟩
abbrev zd_b_cha : ByteArray := prog_16_method_56_code
def zd_y_chk : MethodName := ⟨"java/lang/String", "checkIndex", "(II)V"⟩
abbrev zd_b_chk : ByteArray := prog_16_method_155_code
def zd_y_l1c : MethodName := ⟨"java/lang/StringLatin1", "charAt", "([BI)C"⟩
abbrev zd_b_l1c : ByteArray := prog_17_method_2_code
def zd_y_pci : MethodName := ⟨"jdk/internal/util/Preconditions", "checkIndex", "(IILjava/util/function/BiFunction;)I"⟩
abbrev zd_b_pci : ByteArray := prog_19_method_11_code
def zd_y_fdi : MethodName := ⟨"java/lang/Math", "floorDiv", "(II)I"⟩
abbrev zd_b_fdi : ByteArray := prog_15_method_47_code
def zd_y_fmo : MethodName := ⟨"java/lang/Math", "floorMod", "(II)I"⟩
abbrev zd_b_fmo : ByteArray := prog_15_method_50_code
theorem zd_w_c_coder : Cond.code zd_y_coder zd_b_coder 1 (some .byte) ∈ zs_tb := zs_wd_mem (p := 1186) (by decide +kernel) (by decide +kernel)
theorem zd_w_c_isl : Cond.code zd_y_isl zd_b_isl 1 (some .boolean) ∈ zs_tb := zs_wd_mem (p := 1196) (by decide +kernel) (by decide +kernel)
theorem zd_w_c_len : Cond.code zd_y_len zd_b_len 1 (some .int) ∈ zs_tb := zs_wd_mem (p := 1182) (by decide +kernel) (by decide +kernel)
theorem zd_w_c_cha : Cond.code zd_y_cha zd_b_cha 2 (some .char) ∈ zs_tb := zs_wd_mem (p := 1192) (by decide +kernel) (by decide +kernel)
theorem zd_w_c_chk : Cond.code zd_y_chk zd_b_chk 2 none ∈ zs_tb := zs_wd_mem (p := 1202) (by decide +kernel) (by decide +kernel)
theorem zd_w_c_l1c : Cond.code zd_y_l1c zd_b_l1c 2 (some .char) ∈ zs_tb := zs_wd_mem (p := 1199) (by decide +kernel) (by decide +kernel)
theorem zd_w_c_pci : Cond.code zd_y_pci zd_b_pci 3 (some .int) ∈ zs_tb := zs_wd_mem (p := 1207) (by decide +kernel) (by decide +kernel)
theorem zd_w_c_fdi : Cond.code zd_y_fdi zd_b_fdi 3 (some .int) ∈ zs_tb := zs_wd_mem (p := 4013) (by decide +kernel) (by decide +kernel)
theorem zd_w_c_fmo : Cond.code zd_y_fmo zd_b_fmo 3 (some .int) ∈ zs_tb := zs_wd_mem (p := 4016) (by decide +kernel) (by decide +kernel)
theorem zd_w_f38 : Cond.fieldLink "java/lang/String" 38 "java/lang/String" "COMPACT_STRINGS" "Z" ∈ zs_tb := zs_wd_mem (p := 1187) (by decide +kernel) (by decide +kernel)
theorem zd_w_f15 : Cond.fieldLink "java/lang/String" 15 "java/lang/String" "coder" "B" ∈ zs_tb := zs_wd_mem (p := 8153) (by decide +kernel) (by decide +kernel)
theorem zd_w_f9 : Cond.fieldLink "java/lang/String" 9 "java/lang/String" "value" "[B" ∈ zs_tb := zs_wd_mem (p := 8152) (by decide +kernel) (by decide +kernel)
theorem zd_w_f1053 : Cond.fieldLink "java/lang/String" 1053 "jdk/internal/util/Preconditions" "SIOOBE_FORMATTER" "Ljava/util/function/BiFunction;" ∈ zs_tb := zs_wd_mem (p := 1203) (by decide +kernel) (by decide +kernel)
theorem zd_w_l335 : Cond.methodLink "java/lang/String" 335 zd_y_coder ∈ zs_tb := zs_wd_mem (p := 1183) (by decide +kernel) (by decide +kernel)
theorem zd_w_l492 : Cond.methodLink "java/lang/String" 492 zd_y_isl ∈ zs_tb := zs_wd_mem (p := 1193) (by decide +kernel) (by decide +kernel)
theorem zd_w_l495 : Cond.methodLink "java/lang/String" 495 zd_y_l1c ∈ zs_tb := zs_wd_mem (p := 1197) (by decide +kernel) (by decide +kernel)
theorem zd_w_l1059 : Cond.methodLink "java/lang/String" 1059 zd_y_pci ∈ zs_tb := zs_wd_mem (p := 1205) (by decide +kernel) (by decide +kernel)
theorem zd_w_l9 : Cond.methodLink "java/lang/StringLatin1" 9 zd_y_chk ∈ zs_tb := zs_wd_mem (p := 1200) (by decide +kernel) (by decide +kernel)
theorem zd_w_s_chk : Cond.static zd_y_chk ∈ zs_tb := zs_wd_mem (p := 1201) (by decide +kernel) (by decide +kernel)
theorem zd_w_s_l1c : Cond.static zd_y_l1c ∈ zs_tb := zs_wd_mem (p := 1198) (by decide +kernel) (by decide +kernel)
theorem zd_w_s_pci : Cond.static zd_y_pci ∈ zs_tb := zs_wd_mem (p := 1206) (by decide +kernel) (by decide +kernel)
theorem zd_w_s_fdi : Cond.static zd_y_fdi ∈ zs_tb := zs_wd_mem (p := 4012) (by decide +kernel) (by decide +kernel)
theorem zd_w_s_fmo : Cond.static zd_y_fmo ∈ zs_tb := zs_wd_mem (p := 4015) (by decide +kernel) (by decide +kernel)
theorem zd_w_i_coder : Cond.instanceMethod zd_y_coder ∈ zs_tb := zs_wd_mem (p := 1184) (by decide +kernel) (by decide +kernel)
theorem zd_w_x_coder : Cond.selects "java/lang/String" zd_y_coder zd_y_coder ∈ zs_tb := zs_wd_mem (p := 1185) (by decide +kernel) (by decide +kernel)
theorem zd_w_i_isl : Cond.instanceMethod zd_y_isl ∈ zs_tb := zs_wd_mem (p := 1194) (by decide +kernel) (by decide +kernel)
theorem zd_w_x_isl : Cond.selects "java/lang/String" zd_y_isl zd_y_isl ∈ zs_tb := zs_wd_mem (p := 1195) (by decide +kernel) (by decide +kernel)
theorem zd_w_i_len : Cond.instanceMethod zd_y_len ∈ zs_tb := zs_wd_mem (p := 1180) (by decide +kernel) (by decide +kernel)
theorem zd_w_x_len : Cond.selects "java/lang/String" zd_y_len zd_y_len ∈ zs_tb := zs_wd_mem (p := 1181) (by decide +kernel) (by decide +kernel)
theorem zd_w_i_cha : Cond.instanceMethod zd_y_cha ∈ zs_tb := zs_wd_mem (p := 1190) (by decide +kernel) (by decide +kernel)
theorem zd_w_x_cha : Cond.selects "java/lang/String" zd_y_cha zd_y_cha ∈ zs_tb := zs_wd_mem (p := 1191) (by decide +kernel) (by decide +kernel)
theorem zd_w_n_s : Cond.initialized "java/lang/String" ∈ zs_tb := zs_wd_mem (p := 1006) (by decide +kernel) (by decide +kernel)
theorem zd_w_n_l : Cond.initialized "java/lang/StringLatin1" ∈ zs_tb := zs_wd_mem (p := 1007) (by decide +kernel) (by decide +kernel)
theorem zd_w_n_p : Cond.initialized "jdk/internal/util/Preconditions" ∈ zs_tb := zs_wd_mem (p := 1008) (by decide +kernel) (by decide +kernel)
theorem zd_w_n_m : Cond.initialized "java/lang/Math" ∈ zs_tb := zs_wd_mem (p := 1018) (by decide +kernel) (by decide +kernel)
theorem zd_d_coder_0 : decode zd_b_coder 0 = .ok (.getstatic 38, 3) := by decide +kernel
theorem zd_d_coder_3 : decode zd_b_coder 3 = .ok (.ifCond .eq 10, 3) := by decide +kernel
theorem zd_d_coder_6 : decode zd_b_coder 6 = .ok (.aload_n 0, 1) := by decide +kernel
theorem zd_d_coder_7 : decode zd_b_coder 7 = .ok (.getfield 15, 3) := by decide +kernel
theorem zd_d_coder_10 : decode zd_b_coder 10 = .ok (.goto 4, 3) := by decide +kernel
theorem zd_d_coder_13 : decode zd_b_coder 13 = .ok (.iconst 1, 1) := by decide +kernel
theorem zd_d_coder_14 : decode zd_b_coder 14 = .ok (.ireturn, 1) := by decide +kernel
theorem zd_d_isl_0 : decode zd_b_isl 0 = .ok (.getstatic 38, 3) := by decide +kernel
theorem zd_d_isl_3 : decode zd_b_isl 3 = .ok (.ifCond .eq 14, 3) := by decide +kernel
theorem zd_d_isl_6 : decode zd_b_isl 6 = .ok (.aload_n 0, 1) := by decide +kernel
theorem zd_d_isl_7 : decode zd_b_isl 7 = .ok (.getfield 15, 3) := by decide +kernel
theorem zd_d_isl_10 : decode zd_b_isl 10 = .ok (.ifCond .ne 7, 3) := by decide +kernel
theorem zd_d_isl_13 : decode zd_b_isl 13 = .ok (.iconst 1, 1) := by decide +kernel
theorem zd_d_isl_14 : decode zd_b_isl 14 = .ok (.goto 4, 3) := by decide +kernel
theorem zd_d_isl_17 : decode zd_b_isl 17 = .ok (.iconst 0, 1) := by decide +kernel
theorem zd_d_isl_18 : decode zd_b_isl 18 = .ok (.ireturn, 1) := by decide +kernel
theorem zd_d_len_0 : decode zd_b_len 0 = .ok (.aload_n 0, 1) := by decide +kernel
theorem zd_d_len_1 : decode zd_b_len 1 = .ok (.getfield 9, 3) := by decide +kernel
theorem zd_d_len_4 : decode zd_b_len 4 = .ok (.arraylength, 1) := by decide +kernel
theorem zd_d_len_5 : decode zd_b_len 5 = .ok (.aload_n 0, 1) := by decide +kernel
theorem zd_d_len_6 : decode zd_b_len 6 = .ok (.invokevirtual 335, 3) := by decide +kernel
theorem zd_d_len_9 : decode zd_b_len 9 = .ok (.ishr, 1) := by decide +kernel
theorem zd_d_len_10 : decode zd_b_len 10 = .ok (.ireturn, 1) := by decide +kernel
theorem zd_d_cha_0 : decode zd_b_cha 0 = .ok (.aload_n 0, 1) := by decide +kernel
theorem zd_d_cha_1 : decode zd_b_cha 1 = .ok (.invokevirtual 492, 3) := by decide +kernel
theorem zd_d_cha_4 : decode zd_b_cha 4 = .ok (.ifCond .eq 12, 3) := by decide +kernel
theorem zd_d_cha_7 : decode zd_b_cha 7 = .ok (.aload_n 0, 1) := by decide +kernel
theorem zd_d_cha_8 : decode zd_b_cha 8 = .ok (.getfield 9, 3) := by decide +kernel
theorem zd_d_cha_11 : decode zd_b_cha 11 = .ok (.iload_n 1, 1) := by decide +kernel
theorem zd_d_cha_12 : decode zd_b_cha 12 = .ok (.invokestatic 495, 3) := by decide +kernel
theorem zd_d_cha_15 : decode zd_b_cha 15 = .ok (.ireturn, 1) := by decide +kernel
theorem zd_d_cha_16 : decode zd_b_cha 16 = .ok (.aload_n 0, 1) := by decide +kernel
theorem zd_d_cha_17 : decode zd_b_cha 17 = .ok (.getfield 9, 3) := by decide +kernel
theorem zd_d_cha_20 : decode zd_b_cha 20 = .ok (.iload_n 1, 1) := by decide +kernel
theorem zd_d_cha_21 : decode zd_b_cha 21 = .ok (.invokestatic 498, 3) := by decide +kernel
theorem zd_d_cha_24 : decode zd_b_cha 24 = .ok (.ireturn, 1) := by decide +kernel
theorem zd_d_chk_0 : decode zd_b_chk 0 = .ok (.iload_n 0, 1) := by decide +kernel
theorem zd_d_chk_1 : decode zd_b_chk 1 = .ok (.iload_n 1, 1) := by decide +kernel
theorem zd_d_chk_2 : decode zd_b_chk 2 = .ok (.getstatic 1053, 3) := by decide +kernel
theorem zd_d_chk_5 : decode zd_b_chk 5 = .ok (.invokestatic 1059, 3) := by decide +kernel
theorem zd_d_chk_8 : decode zd_b_chk 8 = .ok (.pop, 1) := by decide +kernel
theorem zd_d_chk_9 : decode zd_b_chk 9 = .ok (.return_, 1) := by decide +kernel
theorem zd_d_l1c_0 : decode zd_b_l1c 0 = .ok (.iload_n 1, 1) := by decide +kernel
theorem zd_d_l1c_1 : decode zd_b_l1c 1 = .ok (.aload_n 0, 1) := by decide +kernel
theorem zd_d_l1c_2 : decode zd_b_l1c 2 = .ok (.arraylength, 1) := by decide +kernel
theorem zd_d_l1c_3 : decode zd_b_l1c 3 = .ok (.invokestatic 9, 3) := by decide +kernel
theorem zd_d_l1c_6 : decode zd_b_l1c 6 = .ok (.aload_n 0, 1) := by decide +kernel
theorem zd_d_l1c_7 : decode zd_b_l1c 7 = .ok (.iload_n 1, 1) := by decide +kernel
theorem zd_d_l1c_8 : decode zd_b_l1c 8 = .ok (.baload, 1) := by decide +kernel
theorem zd_d_l1c_9 : decode zd_b_l1c 9 = .ok (.sipush 255, 3) := by decide +kernel
theorem zd_d_l1c_12 : decode zd_b_l1c 12 = .ok (.iand, 1) := by decide +kernel
theorem zd_d_l1c_13 : decode zd_b_l1c 13 = .ok (.i2c, 1) := by decide +kernel
theorem zd_d_l1c_14 : decode zd_b_l1c 14 = .ok (.ireturn, 1) := by decide +kernel
theorem zd_d_pci_0 : decode zd_b_pci 0 = .ok (.iload_n 0, 1) := by decide +kernel
theorem zd_d_pci_1 : decode zd_b_pci 1 = .ok (.ifCond .lt 8, 3) := by decide +kernel
theorem zd_d_pci_4 : decode zd_b_pci 4 = .ok (.iload_n 0, 1) := by decide +kernel
theorem zd_d_pci_5 : decode zd_b_pci 5 = .ok (.iload_n 1, 1) := by decide +kernel
theorem zd_d_pci_6 : decode zd_b_pci 6 = .ok (.if_icmp .lt 10, 3) := by decide +kernel
theorem zd_d_pci_9 : decode zd_b_pci 9 = .ok (.aload_n 2, 1) := by decide +kernel
theorem zd_d_pci_10 : decode zd_b_pci 10 = .ok (.iload_n 0, 1) := by decide +kernel
theorem zd_d_pci_11 : decode zd_b_pci 11 = .ok (.iload_n 1, 1) := by decide +kernel
theorem zd_d_pci_12 : decode zd_b_pci 12 = .ok (.invokestatic 95, 3) := by decide +kernel
theorem zd_d_pci_15 : decode zd_b_pci 15 = .ok (.athrow, 1) := by decide +kernel
theorem zd_d_pci_16 : decode zd_b_pci 16 = .ok (.iload_n 0, 1) := by decide +kernel
theorem zd_d_pci_17 : decode zd_b_pci 17 = .ok (.ireturn, 1) := by decide +kernel
theorem zd_d_fdi_0 : decode zd_b_fdi 0 = .ok (.iload_n 0, 1) := by decide +kernel
theorem zd_d_fdi_1 : decode zd_b_fdi 1 = .ok (.iload_n 1, 1) := by decide +kernel
theorem zd_d_fdi_2 : decode zd_b_fdi 2 = .ok (.idiv, 1) := by decide +kernel
theorem zd_d_fdi_3 : decode zd_b_fdi 3 = .ok (.istore_n 2, 1) := by decide +kernel
theorem zd_d_fdi_4 : decode zd_b_fdi 4 = .ok (.iload_n 0, 1) := by decide +kernel
theorem zd_d_fdi_5 : decode zd_b_fdi 5 = .ok (.iload_n 1, 1) := by decide +kernel
theorem zd_d_fdi_6 : decode zd_b_fdi 6 = .ok (.ixor, 1) := by decide +kernel
theorem zd_d_fdi_7 : decode zd_b_fdi 7 = .ok (.ifCond .ge 14, 3) := by decide +kernel
theorem zd_d_fdi_10 : decode zd_b_fdi 10 = .ok (.iload_n 2, 1) := by decide +kernel
theorem zd_d_fdi_11 : decode zd_b_fdi 11 = .ok (.iload_n 1, 1) := by decide +kernel
theorem zd_d_fdi_12 : decode zd_b_fdi 12 = .ok (.imul, 1) := by decide +kernel
theorem zd_d_fdi_13 : decode zd_b_fdi 13 = .ok (.iload_n 0, 1) := by decide +kernel
theorem zd_d_fdi_14 : decode zd_b_fdi 14 = .ok (.if_icmp .eq 7, 3) := by decide +kernel
theorem zd_d_fdi_17 : decode zd_b_fdi 17 = .ok (.iload_n 2, 1) := by decide +kernel
theorem zd_d_fdi_18 : decode zd_b_fdi 18 = .ok (.iconst 1, 1) := by decide +kernel
theorem zd_d_fdi_19 : decode zd_b_fdi 19 = .ok (.isub, 1) := by decide +kernel
theorem zd_d_fdi_20 : decode zd_b_fdi 20 = .ok (.ireturn, 1) := by decide +kernel
theorem zd_d_fdi_21 : decode zd_b_fdi 21 = .ok (.iload_n 2, 1) := by decide +kernel
theorem zd_d_fdi_22 : decode zd_b_fdi 22 = .ok (.ireturn, 1) := by decide +kernel
theorem zd_d_fmo_0 : decode zd_b_fmo 0 = .ok (.iload_n 0, 1) := by decide +kernel
theorem zd_d_fmo_1 : decode zd_b_fmo 1 = .ok (.iload_n 1, 1) := by decide +kernel
theorem zd_d_fmo_2 : decode zd_b_fmo 2 = .ok (.irem, 1) := by decide +kernel
theorem zd_d_fmo_3 : decode zd_b_fmo 3 = .ok (.istore_n 2, 1) := by decide +kernel
theorem zd_d_fmo_4 : decode zd_b_fmo 4 = .ok (.iload_n 0, 1) := by decide +kernel
theorem zd_d_fmo_5 : decode zd_b_fmo 5 = .ok (.iload_n 1, 1) := by decide +kernel
theorem zd_d_fmo_6 : decode zd_b_fmo 6 = .ok (.ixor, 1) := by decide +kernel
theorem zd_d_fmo_7 : decode zd_b_fmo 7 = .ok (.ifCond .ge 11, 3) := by decide +kernel
theorem zd_d_fmo_10 : decode zd_b_fmo 10 = .ok (.iload_n 2, 1) := by decide +kernel
theorem zd_d_fmo_11 : decode zd_b_fmo 11 = .ok (.ifCond .eq 7, 3) := by decide +kernel
theorem zd_d_fmo_14 : decode zd_b_fmo 14 = .ok (.iload_n 2, 1) := by decide +kernel
theorem zd_d_fmo_15 : decode zd_b_fmo 15 = .ok (.iload_n 1, 1) := by decide +kernel
theorem zd_d_fmo_16 : decode zd_b_fmo 16 = .ok (.iadd, 1) := by decide +kernel
theorem zd_d_fmo_17 : decode zd_b_fmo 17 = .ok (.ireturn, 1) := by decide +kernel
theorem zd_d_fmo_18 : decode zd_b_fmo 18 = .ok (.iload_n 2, 1) := by decide +kernel
theorem zd_d_fmo_19 : decode zd_b_fmo 19 = .ok (.ireturn, 1) := by decide +kernel
def zs_by : List Int32 := [107, 105, 110, 100, 32, 119, 111, 114, 116, 104, 32, 115, 105, 122, 101, 32, 108, 97, 121, 101, 114, 32, 99, 104, 105, 108, 100, 32, 114, 101, 97, 99, 104, 32, 102, 101, 101, 108, 115, 32, 102, 105, 114, 115, 116, 32, 98, 101, 115, 116, 32, 108, 97, 114, 103, 101, 32, 115, 109, 97, 108, 108, 32, 108, 105, 107, 101, 115, 32, 99, 111, 115, 116, 115, 32, 112, 117, 116, 115, 32, 112, 117, 114, 115, 101, 32, 104, 111, 117, 114, 32, 108, 101, 102, 116, 32, 100, 105, 112, 115, 32, 109, 101, 97, 110, 32, 111, 114, 32, 97, 110, 100, 32, 110, 111, 116, 32, 97, 108, 108, 32, 109, 105, 110, 32, 109, 97, 120, 32]
def zs_own : String := "kind worth size layer child reach feels first best large small likes costs puts purse hour left dips mean or and not all min max "
