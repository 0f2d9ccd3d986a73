abbrev b_V_init : ByteArray := prog_1_method_1_code
def y_V_init : MethodName := ⟨R_V, "<init>", "()V"⟩
theorem cd_V_init : Cond.code y_V_init b_V_init 2 none ∈ tbW := tb1_in (List.mem_of_getElem? (i := 12) rfl) rfl
theorem nm_V_init : nmh y_V_init 0 := ⟨by decide +kernel, by decide +kernel, by decide +kernel⟩
theorem d_V_init_0 : decode b_V_init 0 = .ok (.aload_n 0, 1) := by decide +kernel
theorem d_V_init_1 : decode b_V_init 1 = .ok (.invokespecial 3, 3) := by decide +kernel
theorem d_V_init_4 : decode b_V_init 4 = .ok (.aload_n 0, 1) := by decide +kernel
theorem d_V_init_5 : decode b_V_init 5 = .ok (.bipush 8, 2) := by decide +kernel
theorem d_V_init_7 : decode b_V_init 7 = .ok (.anewarray 9, 3) := by decide +kernel
theorem d_V_init_10 : decode b_V_init 10 = .ok (.putfield 11, 3) := by decide +kernel
theorem d_V_init_13 : decode b_V_init 13 = .ok (.aload_n 0, 1) := by decide +kernel
theorem d_V_init_14 : decode b_V_init 14 = .ok (.iconst 0, 1) := by decide +kernel
theorem d_V_init_15 : decode b_V_init 15 = .ok (.putfield 15, 3) := by decide +kernel
theorem d_V_init_18 : decode b_V_init 18 = .ok (.aload_n 0, 1) := by decide +kernel
theorem d_V_init_19 : decode b_V_init 19 = .ok (.bipush 8, 2) := by decide +kernel
theorem d_V_init_21 : decode b_V_init 21 = .ok (.anewarray 19, 3) := by decide +kernel
theorem d_V_init_24 : decode b_V_init 24 = .ok (.putfield 21, 3) := by decide +kernel
theorem d_V_init_27 : decode b_V_init 27 = .ok (.aload_n 0, 1) := by decide +kernel
theorem d_V_init_28 : decode b_V_init 28 = .ok (.iconst 0, 1) := by decide +kernel
theorem d_V_init_29 : decode b_V_init 29 = .ok (.putfield 25, 3) := by decide +kernel
theorem d_V_init_32 : decode b_V_init 32 = .ok (.aload_n 0, 1) := by decide +kernel
theorem d_V_init_33 : decode b_V_init 33 = .ok (.iconst 0, 1) := by decide +kernel
theorem d_V_init_34 : decode b_V_init 34 = .ok (.putfield 28, 3) := by decide +kernel
theorem d_V_init_37 : decode b_V_init 37 = .ok (.aload_n 0, 1) := by decide +kernel
theorem d_V_init_38 : decode b_V_init 38 = .ok (.new 32, 3) := by decide +kernel
theorem d_V_init_41 : decode b_V_init 41 = .ok (.dup, 1) := by decide +kernel
theorem d_V_init_42 : decode b_V_init 42 = .ok (.invokespecial 34, 3) := by decide +kernel
theorem d_V_init_45 : decode b_V_init 45 = .ok (.putfield 35, 3) := by decide +kernel
theorem d_V_init_48 : decode b_V_init 48 = .ok (.aload_n 0, 1) := by decide +kernel
theorem d_V_init_49 : decode b_V_init 49 = .ok (.new 39, 3) := by decide +kernel
theorem d_V_init_52 : decode b_V_init 52 = .ok (.dup, 1) := by decide +kernel
theorem d_V_init_53 : decode b_V_init 53 = .ok (.invokespecial 41, 3) := by decide +kernel
theorem d_V_init_56 : decode b_V_init 56 = .ok (.putfield 42, 3) := by decide +kernel
theorem d_V_init_59 : decode b_V_init 59 = .ok (.aload_n 0, 1) := by decide +kernel
theorem d_V_init_60 : decode b_V_init 60 = .ok (.sipush 300, 3) := by decide +kernel
theorem d_V_init_63 : decode b_V_init 63 = .ok (.newarray .int, 2) := by decide +kernel
theorem d_V_init_65 : decode b_V_init 65 = .ok (.putfield 46, 3) := by decide +kernel
theorem d_V_init_68 : decode b_V_init 68 = .ok (.aload_n 0, 1) := by decide +kernel
theorem d_V_init_69 : decode b_V_init 69 = .ok (.iconst 0, 1) := by decide +kernel
theorem d_V_init_70 : decode b_V_init 70 = .ok (.putfield 50, 3) := by decide +kernel
theorem d_V_init_73 : decode b_V_init 73 = .ok (.iconst 0, 1) := by decide +kernel
theorem d_V_init_74 : decode b_V_init 74 = .ok (.istore_n 1, 1) := by decide +kernel
theorem d_V_init_75 : decode b_V_init 75 = .ok (.iload_n 1, 1) := by decide +kernel
theorem d_V_init_76 : decode b_V_init 76 = .ok (.bipush 8, 2) := by decide +kernel
theorem d_V_init_78 : decode b_V_init 78 = .ok (.if_icmp .ge 22, 3) := by decide +kernel
theorem d_V_init_81 : decode b_V_init 81 = .ok (.aload_n 0, 1) := by decide +kernel
theorem d_V_init_82 : decode b_V_init 82 = .ok (.getfield 11, 3) := by decide +kernel
theorem d_V_init_85 : decode b_V_init 85 = .ok (.iload_n 1, 1) := by decide +kernel
theorem d_V_init_86 : decode b_V_init 86 = .ok (.new 9, 3) := by decide +kernel
theorem d_V_init_89 : decode b_V_init 89 = .ok (.dup, 1) := by decide +kernel
theorem d_V_init_90 : decode b_V_init 90 = .ok (.invokespecial 53, 3) := by decide +kernel
theorem d_V_init_93 : decode b_V_init 93 = .ok (.aastore, 1) := by decide +kernel
theorem d_V_init_94 : decode b_V_init 94 = .ok (.iinc 1 1, 3) := by decide +kernel
theorem d_V_init_97 : decode b_V_init 97 = .ok (.goto (-22), 3) := by decide +kernel
theorem d_V_init_100 : decode b_V_init 100 = .ok (.iconst 0, 1) := by decide +kernel
theorem d_V_init_101 : decode b_V_init 101 = .ok (.istore_n 1, 1) := by decide +kernel
theorem d_V_init_102 : decode b_V_init 102 = .ok (.iload_n 1, 1) := by decide +kernel
theorem d_V_init_103 : decode b_V_init 103 = .ok (.bipush 8, 2) := by decide +kernel
theorem d_V_init_105 : decode b_V_init 105 = .ok (.if_icmp .ge 22, 3) := by decide +kernel
theorem d_V_init_108 : decode b_V_init 108 = .ok (.aload_n 0, 1) := by decide +kernel
theorem d_V_init_109 : decode b_V_init 109 = .ok (.getfield 21, 3) := by decide +kernel
theorem d_V_init_112 : decode b_V_init 112 = .ok (.iload_n 1, 1) := by decide +kernel
theorem d_V_init_113 : decode b_V_init 113 = .ok (.new 19, 3) := by decide +kernel
theorem d_V_init_116 : decode b_V_init 116 = .ok (.dup, 1) := by decide +kernel
theorem d_V_init_117 : decode b_V_init 117 = .ok (.invokespecial 54, 3) := by decide +kernel
theorem d_V_init_120 : decode b_V_init 120 = .ok (.aastore, 1) := by decide +kernel
theorem d_V_init_121 : decode b_V_init 121 = .ok (.iinc 1 1, 3) := by decide +kernel
theorem d_V_init_124 : decode b_V_init 124 = .ok (.goto (-22), 3) := by decide +kernel
theorem d_V_init_127 : decode b_V_init 127 = .ok (.return_, 1) := by decide +kernel
abbrev b_M_init : ByteArray := prog_7_method_1_code
def y_M_init : MethodName := ⟨R_M, "<init>", "()V"⟩
theorem cd_M_init : Cond.code y_M_init b_M_init 1 none ∈ tbW := tb2_in (List.mem_of_getElem? (i := 145) rfl) rfl
theorem nm_M_init : nmh y_M_init 0 := ⟨by decide +kernel, by decide +kernel, by decide +kernel⟩
theorem d_M_init_0 : decode b_M_init 0 = .ok (.aload_n 0, 1) := by decide +kernel
theorem d_M_init_1 : decode b_M_init 1 = .ok (.invokespecial 1, 3) := by decide +kernel
theorem d_M_init_4 : decode b_M_init 4 = .ok (.aload_n 0, 1) := by decide +kernel
theorem d_M_init_5 : decode b_M_init 5 = .ok (.bipush 8, 2) := by decide +kernel
theorem d_M_init_7 : decode b_M_init 7 = .ok (.newarray .boolean, 2) := by decide +kernel
theorem d_M_init_9 : decode b_M_init 9 = .ok (.putfield 7, 3) := by decide +kernel
theorem d_M_init_12 : decode b_M_init 12 = .ok (.aload_n 0, 1) := by decide +kernel
theorem d_M_init_13 : decode b_M_init 13 = .ok (.bipush 8, 2) := by decide +kernel
theorem d_M_init_15 : decode b_M_init 15 = .ok (.newarray .int, 2) := by decide +kernel
theorem d_M_init_17 : decode b_M_init 17 = .ok (.putfield 13, 3) := by decide +kernel
theorem d_M_init_20 : decode b_M_init 20 = .ok (.aload_n 0, 1) := by decide +kernel
theorem d_M_init_21 : decode b_M_init 21 = .ok (.bipush 32, 2) := by decide +kernel
theorem d_M_init_23 : decode b_M_init 23 = .ok (.newarray .int, 2) := by decide +kernel
theorem d_M_init_25 : decode b_M_init 25 = .ok (.putfield 17, 3) := by decide +kernel
theorem d_M_init_28 : decode b_M_init 28 = .ok (.aload_n 0, 1) := by decide +kernel
theorem d_M_init_29 : decode b_M_init 29 = .ok (.bipush 32, 2) := by decide +kernel
theorem d_M_init_31 : decode b_M_init 31 = .ok (.newarray .int, 2) := by decide +kernel
theorem d_M_init_33 : decode b_M_init 33 = .ok (.putfield 20, 3) := by decide +kernel
theorem d_M_init_36 : decode b_M_init 36 = .ok (.aload_n 0, 1) := by decide +kernel
theorem d_M_init_37 : decode b_M_init 37 = .ok (.bipush 32, 2) := by decide +kernel
theorem d_M_init_39 : decode b_M_init 39 = .ok (.newarray .int, 2) := by decide +kernel
theorem d_M_init_41 : decode b_M_init 41 = .ok (.putfield 23, 3) := by decide +kernel
theorem d_M_init_44 : decode b_M_init 44 = .ok (.aload_n 0, 1) := by decide +kernel
theorem d_M_init_45 : decode b_M_init 45 = .ok (.bipush 8, 2) := by decide +kernel
theorem d_M_init_47 : decode b_M_init 47 = .ok (.newarray .int, 2) := by decide +kernel
theorem d_M_init_49 : decode b_M_init 49 = .ok (.putfield 26, 3) := by decide +kernel
theorem d_M_init_52 : decode b_M_init 52 = .ok (.aload_n 0, 1) := by decide +kernel
theorem d_M_init_53 : decode b_M_init 53 = .ok (.bipush 8, 2) := by decide +kernel
theorem d_M_init_55 : decode b_M_init 55 = .ok (.newarray .int, 2) := by decide +kernel
theorem d_M_init_57 : decode b_M_init 57 = .ok (.putfield 29, 3) := by decide +kernel
theorem d_M_init_60 : decode b_M_init 60 = .ok (.aload_n 0, 1) := by decide +kernel
theorem d_M_init_61 : decode b_M_init 61 = .ok (.bipush 8, 2) := by decide +kernel
theorem d_M_init_63 : decode b_M_init 63 = .ok (.newarray .int, 2) := by decide +kernel
theorem d_M_init_65 : decode b_M_init 65 = .ok (.putfield 32, 3) := by decide +kernel
theorem d_M_init_68 : decode b_M_init 68 = .ok (.aload_n 0, 1) := by decide +kernel
theorem d_M_init_69 : decode b_M_init 69 = .ok (.bipush 32, 2) := by decide +kernel
theorem d_M_init_71 : decode b_M_init 71 = .ok (.newarray .int, 2) := by decide +kernel
theorem d_M_init_73 : decode b_M_init 73 = .ok (.putfield 35, 3) := by decide +kernel
theorem d_M_init_76 : decode b_M_init 76 = .ok (.aload_n 0, 1) := by decide +kernel
theorem d_M_init_77 : decode b_M_init 77 = .ok (.bipush 32, 2) := by decide +kernel
theorem d_M_init_79 : decode b_M_init 79 = .ok (.newarray .int, 2) := by decide +kernel
theorem d_M_init_81 : decode b_M_init 81 = .ok (.putfield 38, 3) := by decide +kernel
theorem d_M_init_84 : decode b_M_init 84 = .ok (.aload_n 0, 1) := by decide +kernel
theorem d_M_init_85 : decode b_M_init 85 = .ok (.bipush 32, 2) := by decide +kernel
theorem d_M_init_87 : decode b_M_init 87 = .ok (.newarray .int, 2) := by decide +kernel
theorem d_M_init_89 : decode b_M_init 89 = .ok (.putfield 41, 3) := by decide +kernel
theorem d_M_init_92 : decode b_M_init 92 = .ok (.aload_n 0, 1) := by decide +kernel
theorem d_M_init_93 : decode b_M_init 93 = .ok (.bipush 32, 2) := by decide +kernel
theorem d_M_init_95 : decode b_M_init 95 = .ok (.newarray .int, 2) := by decide +kernel
theorem d_M_init_97 : decode b_M_init 97 = .ok (.putfield 44, 3) := by decide +kernel
theorem d_M_init_100 : decode b_M_init 100 = .ok (.aload_n 0, 1) := by decide +kernel
theorem d_M_init_101 : decode b_M_init 101 = .ok (.bipush 32, 2) := by decide +kernel
theorem d_M_init_103 : decode b_M_init 103 = .ok (.newarray .int, 2) := by decide +kernel
theorem d_M_init_105 : decode b_M_init 105 = .ok (.putfield 47, 3) := by decide +kernel
theorem d_M_init_108 : decode b_M_init 108 = .ok (.aload_n 0, 1) := by decide +kernel
theorem d_M_init_109 : decode b_M_init 109 = .ok (.sipush 300, 3) := by decide +kernel
theorem d_M_init_112 : decode b_M_init 112 = .ok (.newarray .int, 2) := by decide +kernel
theorem d_M_init_114 : decode b_M_init 114 = .ok (.putfield 50, 3) := by decide +kernel
theorem d_M_init_117 : decode b_M_init 117 = .ok (.aload_n 0, 1) := by decide +kernel
theorem d_M_init_118 : decode b_M_init 118 = .ok (.sipush 300, 3) := by decide +kernel
theorem d_M_init_121 : decode b_M_init 121 = .ok (.newarray .int, 2) := by decide +kernel
theorem d_M_init_123 : decode b_M_init 123 = .ok (.putfield 53, 3) := by decide +kernel
theorem d_M_init_126 : decode b_M_init 126 = .ok (.aload_n 0, 1) := by decide +kernel
theorem d_M_init_127 : decode b_M_init 127 = .ok (.sipush 300, 3) := by decide +kernel
theorem d_M_init_130 : decode b_M_init 130 = .ok (.newarray .int, 2) := by decide +kernel
theorem d_M_init_132 : decode b_M_init 132 = .ok (.putfield 56, 3) := by decide +kernel
theorem d_M_init_135 : decode b_M_init 135 = .ok (.aload_n 0, 1) := by decide +kernel
theorem d_M_init_136 : decode b_M_init 136 = .ok (.sipush 300, 3) := by decide +kernel
theorem d_M_init_139 : decode b_M_init 139 = .ok (.newarray .int, 2) := by decide +kernel
theorem d_M_init_141 : decode b_M_init 141 = .ok (.putfield 59, 3) := by decide +kernel
theorem d_M_init_144 : decode b_M_init 144 = .ok (.aload_n 0, 1) := by decide +kernel
theorem d_M_init_145 : decode b_M_init 145 = .ok (.sipush 300, 3) := by decide +kernel
theorem d_M_init_148 : decode b_M_init 148 = .ok (.newarray .int, 2) := by decide +kernel
theorem d_M_init_150 : decode b_M_init 150 = .ok (.putfield 62, 3) := by decide +kernel
theorem d_M_init_153 : decode b_M_init 153 = .ok (.aload_n 0, 1) := by decide +kernel
theorem d_M_init_154 : decode b_M_init 154 = .ok (.sipush 300, 3) := by decide +kernel
theorem d_M_init_157 : decode b_M_init 157 = .ok (.newarray .int, 2) := by decide +kernel
theorem d_M_init_159 : decode b_M_init 159 = .ok (.putfield 65, 3) := by decide +kernel
theorem d_M_init_162 : decode b_M_init 162 = .ok (.aload_n 0, 1) := by decide +kernel
theorem d_M_init_163 : decode b_M_init 163 = .ok (.bipush 48, 2) := by decide +kernel
theorem d_M_init_165 : decode b_M_init 165 = .ok (.newarray .int, 2) := by decide +kernel
theorem d_M_init_167 : decode b_M_init 167 = .ok (.putfield 68, 3) := by decide +kernel
theorem d_M_init_170 : decode b_M_init 170 = .ok (.aload_n 0, 1) := by decide +kernel
theorem d_M_init_171 : decode b_M_init 171 = .ok (.bipush 8, 2) := by decide +kernel
theorem d_M_init_173 : decode b_M_init 173 = .ok (.newarray .int, 2) := by decide +kernel
theorem d_M_init_175 : decode b_M_init 175 = .ok (.putfield 71, 3) := by decide +kernel
theorem d_M_init_178 : decode b_M_init 178 = .ok (.aload_n 0, 1) := by decide +kernel
theorem d_M_init_179 : decode b_M_init 179 = .ok (.iconst 4, 1) := by decide +kernel
theorem d_M_init_180 : decode b_M_init 180 = .ok (.newarray .int, 2) := by decide +kernel
theorem d_M_init_182 : decode b_M_init 182 = .ok (.putfield 74, 3) := by decide +kernel
theorem d_M_init_185 : decode b_M_init 185 = .ok (.aload_n 0, 1) := by decide +kernel
theorem d_M_init_186 : decode b_M_init 186 = .ok (.iconst 4, 1) := by decide +kernel
theorem d_M_init_187 : decode b_M_init 187 = .ok (.newarray .int, 2) := by decide +kernel
theorem d_M_init_189 : decode b_M_init 189 = .ok (.putfield 77, 3) := by decide +kernel
theorem d_M_init_192 : decode b_M_init 192 = .ok (.return_, 1) := by decide +kernel
abbrev b_Ch_init : ByteArray := prog_2_method_1_code
def y_Ch_init : MethodName := ⟨R_Ch, "<init>", "()V"⟩
theorem cd_Ch_init : Cond.code y_Ch_init b_Ch_init 1 none ∈ tbW := tb1_in (List.mem_of_getElem? (i := 70) rfl) rfl
theorem nm_Ch_init : nmh y_Ch_init 0 := ⟨by decide +kernel, by decide +kernel, by decide +kernel⟩
theorem d_Ch_init_0 : decode b_Ch_init 0 = .ok (.aload_n 0, 1) := by decide +kernel
theorem d_Ch_init_1 : decode b_Ch_init 1 = .ok (.invokespecial 3, 3) := by decide +kernel
theorem d_Ch_init_4 : decode b_Ch_init 4 = .ok (.aload_n 0, 1) := by decide +kernel
theorem d_Ch_init_5 : decode b_Ch_init 5 = .ok (.iconst 0, 1) := by decide +kernel
theorem d_Ch_init_6 : decode b_Ch_init 6 = .ok (.putfield 9, 3) := by decide +kernel
theorem d_Ch_init_9 : decode b_Ch_init 9 = .ok (.aload_n 0, 1) := by decide +kernel
theorem d_Ch_init_10 : decode b_Ch_init 10 = .ok (.bipush 6, 2) := by decide +kernel
theorem d_Ch_init_12 : decode b_Ch_init 12 = .ok (.newarray .int, 2) := by decide +kernel
theorem d_Ch_init_14 : decode b_Ch_init 14 = .ok (.putfield 15, 3) := by decide +kernel
theorem d_Ch_init_17 : decode b_Ch_init 17 = .ok (.aload_n 0, 1) := by decide +kernel
theorem d_Ch_init_18 : decode b_Ch_init 18 = .ok (.iconst 0, 1) := by decide +kernel
theorem d_Ch_init_19 : decode b_Ch_init 19 = .ok (.putfield 19, 3) := by decide +kernel
theorem d_Ch_init_22 : decode b_Ch_init 22 = .ok (.return_, 1) := by decide +kernel
abbrev b_Mt_init : ByteArray := prog_3_method_1_code
def y_Mt_init : MethodName := ⟨R_Mt, "<init>", "()V"⟩
theorem cd_Mt_init : Cond.code y_Mt_init b_Mt_init 1 none ∈ tbW := tb1_in (List.mem_of_getElem? (i := 56) rfl) rfl
theorem nm_Mt_init : nmh y_Mt_init 0 := ⟨by decide +kernel, by decide +kernel, by decide +kernel⟩
theorem d_Mt_init_0 : decode b_Mt_init 0 = .ok (.aload_n 0, 1) := by decide +kernel
theorem d_Mt_init_1 : decode b_Mt_init 1 = .ok (.invokespecial 3, 3) := by decide +kernel
theorem d_Mt_init_4 : decode b_Mt_init 4 = .ok (.aload_n 0, 1) := by decide +kernel
theorem d_Mt_init_5 : decode b_Mt_init 5 = .ok (.iconst 4, 1) := by decide +kernel
theorem d_Mt_init_6 : decode b_Mt_init 6 = .ok (.newarray .int, 2) := by decide +kernel
theorem d_Mt_init_8 : decode b_Mt_init 8 = .ok (.putfield 9, 3) := by decide +kernel
theorem d_Mt_init_11 : decode b_Mt_init 11 = .ok (.aload_n 0, 1) := by decide +kernel
theorem d_Mt_init_12 : decode b_Mt_init 12 = .ok (.iconst 4, 1) := by decide +kernel
theorem d_Mt_init_13 : decode b_Mt_init 13 = .ok (.newarray .int, 2) := by decide +kernel
theorem d_Mt_init_15 : decode b_Mt_init 15 = .ok (.putfield 15, 3) := by decide +kernel
theorem d_Mt_init_18 : decode b_Mt_init 18 = .ok (.return_, 1) := by decide +kernel
abbrev b_Ms_init : ByteArray := prog_4_method_1_code
def y_Ms_init : MethodName := ⟨R_Ms, "<init>", "()V"⟩
theorem cd_Ms_init : Cond.code y_Ms_init b_Ms_init 1 none ∈ tbW := tb1_in (List.mem_of_getElem? (i := 24) rfl) rfl
theorem nm_Ms_init : nmh y_Ms_init 0 := ⟨by decide +kernel, by decide +kernel, by decide +kernel⟩
theorem d_Ms_init_0 : decode b_Ms_init 0 = .ok (.aload_n 0, 1) := by decide +kernel
theorem d_Ms_init_1 : decode b_Ms_init 1 = .ok (.invokespecial 3, 3) := by decide +kernel
theorem d_Ms_init_4 : decode b_Ms_init 4 = .ok (.aload_n 0, 1) := by decide +kernel
theorem d_Ms_init_5 : decode b_Ms_init 5 = .ok (.iconst 0, 1) := by decide +kernel
theorem d_Ms_init_6 : decode b_Ms_init 6 = .ok (.putfield 9, 3) := by decide +kernel
theorem d_Ms_init_9 : decode b_Ms_init 9 = .ok (.aload_n 0, 1) := by decide +kernel
theorem d_Ms_init_10 : decode b_Ms_init 10 = .ok (.sipush 300, 3) := by decide +kernel
theorem d_Ms_init_13 : decode b_Ms_init 13 = .ok (.newarray .int, 2) := by decide +kernel
theorem d_Ms_init_15 : decode b_Ms_init 15 = .ok (.putfield 15, 3) := by decide +kernel
theorem d_Ms_init_18 : decode b_Ms_init 18 = .ok (.aload_n 0, 1) := by decide +kernel
theorem d_Ms_init_19 : decode b_Ms_init 19 = .ok (.sipush 300, 3) := by decide +kernel
theorem d_Ms_init_22 : decode b_Ms_init 22 = .ok (.newarray .int, 2) := by decide +kernel
theorem d_Ms_init_24 : decode b_Ms_init 24 = .ok (.putfield 19, 3) := by decide +kernel
theorem d_Ms_init_27 : decode b_Ms_init 27 = .ok (.aload_n 0, 1) := by decide +kernel
theorem d_Ms_init_28 : decode b_Ms_init 28 = .ok (.sipush 300, 3) := by decide +kernel
theorem d_Ms_init_31 : decode b_Ms_init 31 = .ok (.newarray .int, 2) := by decide +kernel
theorem d_Ms_init_33 : decode b_Ms_init 33 = .ok (.putfield 22, 3) := by decide +kernel
theorem d_Ms_init_36 : decode b_Ms_init 36 = .ok (.aload_n 0, 1) := by decide +kernel
theorem d_Ms_init_37 : decode b_Ms_init 37 = .ok (.sipush 300, 3) := by decide +kernel
theorem d_Ms_init_40 : decode b_Ms_init 40 = .ok (.newarray .int, 2) := by decide +kernel
theorem d_Ms_init_42 : decode b_Ms_init 42 = .ok (.putfield 25, 3) := by decide +kernel
theorem d_Ms_init_45 : decode b_Ms_init 45 = .ok (.aload_n 0, 1) := by decide +kernel
theorem d_Ms_init_46 : decode b_Ms_init 46 = .ok (.sipush 300, 3) := by decide +kernel
theorem d_Ms_init_49 : decode b_Ms_init 49 = .ok (.newarray .int, 2) := by decide +kernel
theorem d_Ms_init_51 : decode b_Ms_init 51 = .ok (.putfield 28, 3) := by decide +kernel
theorem d_Ms_init_54 : decode b_Ms_init 54 = .ok (.return_, 1) := by decide +kernel
abbrev b_Re_init : ByteArray := prog_5_method_1_code
def y_Re_init : MethodName := ⟨R_Re, "<init>", "()V"⟩
theorem cd_Re_init : Cond.code y_Re_init b_Re_init 1 none ∈ tbW := tb1_in (List.mem_of_getElem? (i := 88) rfl) rfl
theorem nm_Re_init : nmh y_Re_init 0 := ⟨by decide +kernel, by decide +kernel, by decide +kernel⟩
theorem d_Re_init_0 : decode b_Re_init 0 = .ok (.aload_n 0, 1) := by decide +kernel
theorem d_Re_init_1 : decode b_Re_init 1 = .ok (.invokespecial 3, 3) := by decide +kernel
theorem d_Re_init_4 : decode b_Re_init 4 = .ok (.aload_n 0, 1) := by decide +kernel
theorem d_Re_init_5 : decode b_Re_init 5 = .ok (.iconst 0, 1) := by decide +kernel
theorem d_Re_init_6 : decode b_Re_init 6 = .ok (.putfield 9, 3) := by decide +kernel
theorem d_Re_init_9 : decode b_Re_init 9 = .ok (.aload_n 0, 1) := by decide +kernel
theorem d_Re_init_10 : decode b_Re_init 10 = .ok (.iconst 4, 1) := by decide +kernel
theorem d_Re_init_11 : decode b_Re_init 11 = .ok (.newarray .int, 2) := by decide +kernel
theorem d_Re_init_13 : decode b_Re_init 13 = .ok (.putfield 15, 3) := by decide +kernel
theorem d_Re_init_16 : decode b_Re_init 16 = .ok (.aload_n 0, 1) := by decide +kernel
theorem d_Re_init_17 : decode b_Re_init 17 = .ok (.iconst 4, 1) := by decide +kernel
theorem d_Re_init_18 : decode b_Re_init 18 = .ok (.newarray .int, 2) := by decide +kernel
theorem d_Re_init_20 : decode b_Re_init 20 = .ok (.putfield 19, 3) := by decide +kernel
theorem d_Re_init_23 : decode b_Re_init 23 = .ok (.aload_n 0, 1) := by decide +kernel
theorem d_Re_init_24 : decode b_Re_init 24 = .ok (.iconst 4, 1) := by decide +kernel
theorem d_Re_init_25 : decode b_Re_init 25 = .ok (.newarray .int, 2) := by decide +kernel
theorem d_Re_init_27 : decode b_Re_init 27 = .ok (.putfield 22, 3) := by decide +kernel
theorem d_Re_init_30 : decode b_Re_init 30 = .ok (.aload_n 0, 1) := by decide +kernel
theorem d_Re_init_31 : decode b_Re_init 31 = .ok (.iconst 0, 1) := by decide +kernel
theorem d_Re_init_32 : decode b_Re_init 32 = .ok (.putfield 25, 3) := by decide +kernel
theorem d_Re_init_35 : decode b_Re_init 35 = .ok (.aload_n 0, 1) := by decide +kernel
theorem d_Re_init_36 : decode b_Re_init 36 = .ok (.iconst 0, 1) := by decide +kernel
theorem d_Re_init_37 : decode b_Re_init 37 = .ok (.putfield 28, 3) := by decide +kernel
theorem d_Re_init_40 : decode b_Re_init 40 = .ok (.aload_n 0, 1) := by decide +kernel
theorem d_Re_init_41 : decode b_Re_init 41 = .ok (.iconst 0, 1) := by decide +kernel
theorem d_Re_init_42 : decode b_Re_init 42 = .ok (.putfield 31, 3) := by decide +kernel
theorem d_Re_init_45 : decode b_Re_init 45 = .ok (.aload_n 0, 1) := by decide +kernel
theorem d_Re_init_46 : decode b_Re_init 46 = .ok (.iconst 4, 1) := by decide +kernel
theorem d_Re_init_47 : decode b_Re_init 47 = .ok (.newarray .boolean, 2) := by decide +kernel
theorem d_Re_init_49 : decode b_Re_init 49 = .ok (.putfield 34, 3) := by decide +kernel
theorem d_Re_init_52 : decode b_Re_init 52 = .ok (.aload_n 0, 1) := by decide +kernel
theorem d_Re_init_53 : decode b_Re_init 53 = .ok (.iconst 4, 1) := by decide +kernel
theorem d_Re_init_54 : decode b_Re_init 54 = .ok (.newarray .int, 2) := by decide +kernel
theorem d_Re_init_56 : decode b_Re_init 56 = .ok (.putfield 38, 3) := by decide +kernel
theorem d_Re_init_59 : decode b_Re_init 59 = .ok (.aload_n 0, 1) := by decide +kernel
theorem d_Re_init_60 : decode b_Re_init 60 = .ok (.iconst 4, 1) := by decide +kernel
theorem d_Re_init_61 : decode b_Re_init 61 = .ok (.newarray .int, 2) := by decide +kernel
theorem d_Re_init_63 : decode b_Re_init 63 = .ok (.putfield 41, 3) := by decide +kernel
theorem d_Re_init_66 : decode b_Re_init 66 = .ok (.aload_n 0, 1) := by decide +kernel
theorem d_Re_init_67 : decode b_Re_init 67 = .ok (.iconst 4, 1) := by decide +kernel
theorem d_Re_init_68 : decode b_Re_init 68 = .ok (.newarray .int, 2) := by decide +kernel
theorem d_Re_init_70 : decode b_Re_init 70 = .ok (.putfield 44, 3) := by decide +kernel
theorem d_Re_init_73 : decode b_Re_init 73 = .ok (.aload_n 0, 1) := by decide +kernel
theorem d_Re_init_74 : decode b_Re_init 74 = .ok (.iconst 4, 1) := by decide +kernel
theorem d_Re_init_75 : decode b_Re_init 75 = .ok (.newarray .int, 2) := by decide +kernel
theorem d_Re_init_77 : decode b_Re_init 77 = .ok (.putfield 47, 3) := by decide +kernel
theorem d_Re_init_80 : decode b_Re_init 80 = .ok (.return_, 1) := by decide +kernel
theorem lk362 : Cond.methodLink R_M 1 objectInit ∈ tbW := tb2_in (List.mem_of_getElem? (i := 146) rfl) rfl
theorem lk363 : Cond.instanceMethod objectInit ∈ tbW := tb1_in (List.mem_of_getElem? (i := 14) rfl) rfl
theorem lk364 : Cond.code objectInit ⟨#[0xb1]⟩ 1 none ∈ tbW := tb1_in (List.mem_of_getElem? (i := 15) rfl) rfl
theorem lk365 : Cond.methodLink R_Ch 3 objectInit ∈ tbW := tb1_in (List.mem_of_getElem? (i := 71) rfl) rfl
theorem lk366 : Cond.fieldLink R_Ch 9 "JoinVessel$Channel" "isAnswered" "Z" ∈ tbW := tb1_in (List.mem_of_getElem? (i := 72) rfl) rfl
theorem lk367 : Cond.methodLink R_Mt 3 objectInit ∈ tbW := tb1_in (List.mem_of_getElem? (i := 57) rfl) rfl
theorem lk368 : Cond.fieldLink R_Mt 15 "JoinVessel$Match" "values" "[I" ∈ tbW := tb1_in (List.mem_of_getElem? (i := 60) rfl) rfl
theorem lk369 : Cond.methodLink R_Ms 3 objectInit ∈ tbW := tb1_in (List.mem_of_getElem? (i := 25) rfl) rfl
theorem lk370 : Cond.fieldLink R_Ms 28 "JoinVessel$Messages" "answers" "[I" ∈ tbW := tb1_in (List.mem_of_getElem? (i := 36) rfl) rfl
theorem lk371 : Cond.methodLink R_Re 3 objectInit ∈ tbW := tb1_in (List.mem_of_getElem? (i := 89) rfl) rfl
def w_M_init (q : Nat → ClassId) (x : Nat) (w : Nat → Nat) : va_W := [(x, .inr (0, [.int 0, .ref (w 0), .int 0, .ref (w 1), .ref (w 2), .ref (w 3), .ref (w 4), .ref (w 5), .ref (w 6), .ref (w 7), .ref (w 8), .ref (w 9), .ref (w 10), .ref (w 11), .ref (w 12), .int 0, .int 0, .ref (w 13), .ref (w 14), .ref (w 15), .ref (w 16), .ref (w 17), .int 0, .ref (w 18), .ref (w 19), .ref (w 20), .ref (w 21), .ref (w 22)])), ((w 0), .inl (q 1, 8, .inl (fun _ => 0))), ((w 1), .inl (q 0, 8, .inl (fun _ => 0))), ((w 2), .inl (q 0, 32, .inl (fun _ => 0))), ((w 3), .inl (q 0, 32, .inl (fun _ => 0))), ((w 4), .inl (q 0, 32, .inl (fun _ => 0))), ((w 5), .inl (q 0, 8, .inl (fun _ => 0))), ((w 6), .inl (q 0, 8, .inl (fun _ => 0))), ((w 7), .inl (q 0, 8, .inl (fun _ => 0))), ((w 8), .inl (q 0, 32, .inl (fun _ => 0))), ((w 9), .inl (q 0, 32, .inl (fun _ => 0))), ((w 10), .inl (q 0, 32, .inl (fun _ => 0))), ((w 11), .inl (q 0, 32, .inl (fun _ => 0))), ((w 12), .inl (q 0, 32, .inl (fun _ => 0))), ((w 13), .inl (q 0, 300, .inl (fun _ => 0))), ((w 14), .inl (q 0, 300, .inl (fun _ => 0))), ((w 15), .inl (q 0, 300, .inl (fun _ => 0))), ((w 16), .inl (q 0, 300, .inl (fun _ => 0))), ((w 17), .inl (q 0, 300, .inl (fun _ => 0))), ((w 18), .inl (q 0, 300, .inl (fun _ => 0))), ((w 19), .inl (q 0, 48, .inl (fun _ => 0))), ((w 20), .inl (q 0, 8, .inl (fun _ => 0))), ((w 21), .inl (q 0, 4, .inl (fun _ => 0))), ((w 22), .inl (q 0, 4, .inl (fun _ => 0)))]
set_option maxHeartbeats 4000000 in
set_option maxRecDepth 100000 in
theorem c_M_init {l : Launch} {D : va_G} {q : Nat → ClassId} {x : Nat} (sz : Nat) : Met l y_M_init [.code y_M_init b_M_init 1 none] { frames := 1, cells := 23, slots := 2160, locals := 12 } (va_Pc [.ref x] (PreN D clM (tyM q) [(x, .inr (0, [.int 0, .null, .int 0, .null, .null, .null, .null, .null, .null, .null, .null, .null, .null, .null, .null, .int 0, .int 0, .null, .null, .null, .null, .null, .int 0, .null, .null, .null, .null, .null]))] sz)) (va_Qv (fun _ : Nat → Nat => True) (AtN D clM (x, .inr (0, [.int 0, .null, .int 0, .null, .null, .null, .null, .null, .null, .null, .null, .null, .null, .null, .null, .int 0, .int 0, .null, .null, .null, .null, .null, .int 0, .null, .null, .null, .null, .null])) sz (w_M_init q x)) (va_A [(x, .inr (0, [.int 0, .null, .int 0, .null, .null, .null, .null, .null, .null, .null, .null, .null, .null, .null, .null, .int 0, .int 0, .null, .null, .null, .null, .null, .int 0, .null, .null, .null, .null, .null]))] sz)) 23 2160 (va_A [(x, .inr (0, [.int 0, .null, .int 0, .null, .null, .null, .null, .null, .null, .null, .null, .null, .null, .null, .null, .int 0, .int 0, .null, .null, .null, .null, .null, .int 0, .null, .null, .null, .null, .null]))] sz) := by
  refine n_of (by decide +kernel) rfl (by decide) ?_
  intro p e R s m below meth c hsz X
  refine n_aload_n (pc := 0) X 0 d_M_init_0 rfl rfl ?_
  refine n_objInit (pc := 1) X lk362 lk363 lk364 (by decide) (by decide) d_M_init_1 ?_
  refine n_aload_n (pc := 4) X 0 d_M_init_4 rfl rfl ?_
  refine n_bipush (v := (8 : Int32)) (pc := 5) X d_M_init_5 (by decide) ?_
  refine n_newz (ws' := fun x1 => [(x, .inr (0, [.int 0, .null, .int 0, .null, .null, .null, .null, .null, .null, .null, .null, .null, .null, .null, .null, .int 0, .int 0, .null, .null, .null, .null, .null, .int 0, .null, .null, .null, .null, .null])), (x1, .inl (q 1, 8, .inl (fun _ => 0)))]) (ca' := 1) (sl' := 8) (pc := 7) X 1 rfl (by decide) (by decide) (by decide) rfl rfl (by decide) (by decide) (fun _ => rfl) d_M_init_7 (fun x1 => ?_)
  refine n_putF (ws' := [(x, .inr (0, [.int 0, .ref x1, .int 0, .null, .null, .null, .null, .null, .null, .null, .null, .null, .null, .null, .null, .int 0, .int 0, .null, .null, .null, .null, .null, .int 0, .null, .null, .null, .null, .null])), (x1, .inl (q 1, 8, .inl (fun _ => 0)))]) (pc := 9) X 0 rfl rfl hin_M t_M t_M_ok n_M 1 (by decide) lk159 rfl rfl rfl (t_M_ok 1 (by decide)) rfl rfl (Nat.le_of_ble_eq_true rfl) rfl d_M_init_9 ?_
  refine n_aload_n (pc := 12) X 0 d_M_init_12 rfl rfl ?_
  refine n_bipush (v := (8 : Int32)) (pc := 13) X d_M_init_13 (by decide) ?_
  refine n_newi (ws' := fun x2 => [(x, .inr (0, [.int 0, .ref x1, .int 0, .null, .null, .null, .null, .null, .null, .null, .null, .null, .null, .null, .null, .int 0, .int 0, .null, .null, .null, .null, .null, .int 0, .null, .null, .null, .null, .null])), (x1, .inl (q 1, 8, .inl (fun _ => 0))), (x2, .inl (q 0, 8, .inl (fun _ => 0)))]) (ca' := 2) (sl' := 16) (pc := 15) X 0 rfl (by decide) (by decide) (by decide) rfl rfl (by decide) (by decide) (fun _ => rfl) d_M_init_15 (fun x2 => ?_)
  refine n_putF (ws' := [(x, .inr (0, [.int 0, .ref x1, .int 0, .ref x2, .null, .null, .null, .null, .null, .null, .null, .null, .null, .null, .null, .int 0, .int 0, .null, .null, .null, .null, .null, .int 0, .null, .null, .null, .null, .null])), (x1, .inl (q 1, 8, .inl (fun _ => 0))), (x2, .inl (q 0, 8, .inl (fun _ => 0)))]) (pc := 17) X 0 rfl rfl hin_M t_M t_M_ok n_M 3 (by decide) lk161 rfl rfl rfl (t_M_ok 3 (by decide)) rfl rfl (Nat.le_of_ble_eq_true rfl) rfl d_M_init_17 ?_
  refine n_aload_n (pc := 20) X 0 d_M_init_20 rfl rfl ?_
  refine n_bipush (v := (32 : Int32)) (pc := 21) X d_M_init_21 (by decide) ?_
  refine n_newi (ws' := fun x3 => [(x, .inr (0, [.int 0, .ref x1, .int 0, .ref x2, .null, .null, .null, .null, .null, .null, .null, .null, .null, .null, .null, .int 0, .int 0, .null, .null, .null, .null, .null, .int 0, .null, .null, .null, .null, .null])), (x1, .inl (q 1, 8, .inl (fun _ => 0))), (x2, .inl (q 0, 8, .inl (fun _ => 0))), (x3, .inl (q 0, 32, .inl (fun _ => 0)))]) (ca' := 3) (sl' := 48) (pc := 23) X 0 rfl (by decide) (by decide) (by decide) rfl rfl (by decide) (by decide) (fun _ => rfl) d_M_init_23 (fun x3 => ?_)
  refine n_putF (ws' := [(x, .inr (0, [.int 0, .ref x1, .int 0, .ref x2, .ref x3, .null, .null, .null, .null, .null, .null, .null, .null, .null, .null, .int 0, .int 0, .null, .null, .null, .null, .null, .int 0, .null, .null, .null, .null, .null])), (x1, .inl (q 1, 8, .inl (fun _ => 0))), (x2, .inl (q 0, 8, .inl (fun _ => 0))), (x3, .inl (q 0, 32, .inl (fun _ => 0)))]) (pc := 25) X 0 rfl rfl hin_M t_M t_M_ok n_M 4 (by decide) lk169 rfl rfl rfl (t_M_ok 4 (by decide)) rfl rfl (Nat.le_of_ble_eq_true rfl) rfl d_M_init_25 ?_
  refine n_aload_n (pc := 28) X 0 d_M_init_28 rfl rfl ?_
  refine n_bipush (v := (32 : Int32)) (pc := 29) X d_M_init_29 (by decide) ?_
  refine n_newi (ws' := fun x4 => [(x, .inr (0, [.int 0, .ref x1, .int 0, .ref x2, .ref x3, .null, .null, .null, .null, .null, .null, .null, .null, .null, .null, .int 0, .int 0, .null, .null, .null, .null, .null, .int 0, .null, .null, .null, .null, .null])), (x1, .inl (q 1, 8, .inl (fun _ => 0))), (x2, .inl (q 0, 8, .inl (fun _ => 0))), (x3, .inl (q 0, 32, .inl (fun _ => 0))), (x4, .inl (q 0, 32, .inl (fun _ => 0)))]) (ca' := 4) (sl' := 80) (pc := 31) X 0 rfl (by decide) (by decide) (by decide) rfl rfl (by decide) (by decide) (fun _ => rfl) d_M_init_31 (fun x4 => ?_)
  refine n_putF (ws' := [(x, .inr (0, [.int 0, .ref x1, .int 0, .ref x2, .ref x3, .ref x4, .null, .null, .null, .null, .null, .null, .null, .null, .null, .int 0, .int 0, .null, .null, .null, .null, .null, .int 0, .null, .null, .null, .null, .null])), (x1, .inl (q 1, 8, .inl (fun _ => 0))), (x2, .inl (q 0, 8, .inl (fun _ => 0))), (x3, .inl (q 0, 32, .inl (fun _ => 0))), (x4, .inl (q 0, 32, .inl (fun _ => 0)))]) (pc := 33) X 0 rfl rfl hin_M t_M t_M_ok n_M 5 (by decide) lk170 rfl rfl rfl (t_M_ok 5 (by decide)) rfl rfl (Nat.le_of_ble_eq_true rfl) rfl d_M_init_33 ?_
  refine n_aload_n (pc := 36) X 0 d_M_init_36 rfl rfl ?_
  refine n_bipush (v := (32 : Int32)) (pc := 37) X d_M_init_37 (by decide) ?_
  refine n_newi (ws' := fun x5 => [(x, .inr (0, [.int 0, .ref x1, .int 0, .ref x2, .ref x3, .ref x4, .null, .null, .null, .null, .null, .null, .null, .null, .null, .int 0, .int 0, .null, .null, .null, .null, .null, .int 0, .null, .null, .null, .null, .null])), (x1, .inl (q 1, 8, .inl (fun _ => 0))), (x2, .inl (q 0, 8, .inl (fun _ => 0))), (x3, .inl (q 0, 32, .inl (fun _ => 0))), (x4, .inl (q 0, 32, .inl (fun _ => 0))), (x5, .inl (q 0, 32, .inl (fun _ => 0)))]) (ca' := 5) (sl' := 112) (pc := 39) X 0 rfl (by decide) (by decide) (by decide) rfl rfl (by decide) (by decide) (fun _ => rfl) d_M_init_39 (fun x5 => ?_)
  refine n_putF (ws' := [(x, .inr (0, [.int 0, .ref x1, .int 0, .ref x2, .ref x3, .ref x4, .ref x5, .null, .null, .null, .null, .null, .null, .null, .null, .int 0, .int 0, .null, .null, .null, .null, .null, .int 0, .null, .null, .null, .null, .null])), (x1, .inl (q 1, 8, .inl (fun _ => 0))), (x2, .inl (q 0, 8, .inl (fun _ => 0))), (x3, .inl (q 0, 32, .inl (fun _ => 0))), (x4, .inl (q 0, 32, .inl (fun _ => 0))), (x5, .inl (q 0, 32, .inl (fun _ => 0)))]) (pc := 41) X 0 rfl rfl hin_M t_M t_M_ok n_M 6 (by decide) lk171 rfl rfl rfl (t_M_ok 6 (by decide)) rfl rfl (Nat.le_of_ble_eq_true rfl) rfl d_M_init_41 ?_
  refine n_aload_n (pc := 44) X 0 d_M_init_44 rfl rfl ?_
  refine n_bipush (v := (8 : Int32)) (pc := 45) X d_M_init_45 (by decide) ?_
  refine n_newi (ws' := fun x6 => [(x, .inr (0, [.int 0, .ref x1, .int 0, .ref x2, .ref x3, .ref x4, .ref x5, .null, .null, .null, .null, .null, .null, .null, .null, .int 0, .int 0, .null, .null, .null, .null, .null, .int 0, .null, .null, .null, .null, .null])), (x1, .inl (q 1, 8, .inl (fun _ => 0))), (x2, .inl (q 0, 8, .inl (fun _ => 0))), (x3, .inl (q 0, 32, .inl (fun _ => 0))), (x4, .inl (q 0, 32, .inl (fun _ => 0))), (x5, .inl (q 0, 32, .inl (fun _ => 0))), (x6, .inl (q 0, 8, .inl (fun _ => 0)))]) (ca' := 6) (sl' := 120) (pc := 47) X 0 rfl (by decide) (by decide) (by decide) rfl rfl (by decide) (by decide) (fun _ => rfl) d_M_init_47 (fun x6 => ?_)
  refine n_putF (ws' := [(x, .inr (0, [.int 0, .ref x1, .int 0, .ref x2, .ref x3, .ref x4, .ref x5, .ref x6, .null, .null, .null, .null, .null, .null, .null, .int 0, .int 0, .null, .null, .null, .null, .null, .int 0, .null, .null, .null, .null, .null])), (x1, .inl (q 1, 8, .inl (fun _ => 0))), (x2, .inl (q 0, 8, .inl (fun _ => 0))), (x3, .inl (q 0, 32, .inl (fun _ => 0))), (x4, .inl (q 0, 32, .inl (fun _ => 0))), (x5, .inl (q 0, 32, .inl (fun _ => 0))), (x6, .inl (q 0, 8, .inl (fun _ => 0)))]) (pc := 49) X 0 rfl rfl hin_M t_M t_M_ok n_M 7 (by decide) lk172 rfl rfl rfl (t_M_ok 7 (by decide)) rfl rfl (Nat.le_of_ble_eq_true rfl) rfl d_M_init_49 ?_
  refine n_aload_n (pc := 52) X 0 d_M_init_52 rfl rfl ?_
  refine n_bipush (v := (8 : Int32)) (pc := 53) X d_M_init_53 (by decide) ?_
  refine n_newi (ws' := fun x7 => [(x, .inr (0, [.int 0, .ref x1, .int 0, .ref x2, .ref x3, .ref x4, .ref x5, .ref x6, .null, .null, .null, .null, .null, .null, .null, .int 0, .int 0, .null, .null, .null, .null, .null, .int 0, .null, .null, .null, .null, .null])), (x1, .inl (q 1, 8, .inl (fun _ => 0))), (x2, .inl (q 0, 8, .inl (fun _ => 0))), (x3, .inl (q 0, 32, .inl (fun _ => 0))), (x4, .inl (q 0, 32, .inl (fun _ => 0))), (x5, .inl (q 0, 32, .inl (fun _ => 0))), (x6, .inl (q 0, 8, .inl (fun _ => 0))), (x7, .inl (q 0, 8, .inl (fun _ => 0)))]) (ca' := 7) (sl' := 128) (pc := 55) X 0 rfl (by decide) (by decide) (by decide) rfl rfl (by decide) (by decide) (fun _ => rfl) d_M_init_55 (fun x7 => ?_)
  refine n_putF (ws' := [(x, .inr (0, [.int 0, .ref x1, .int 0, .ref x2, .ref x3, .ref x4, .ref x5, .ref x6, .ref x7, .null, .null, .null, .null, .null, .null, .int 0, .int 0, .null, .null, .null, .null, .null, .int 0, .null, .null, .null, .null, .null])), (x1, .inl (q 1, 8, .inl (fun _ => 0))), (x2, .inl (q 0, 8, .inl (fun _ => 0))), (x3, .inl (q 0, 32, .inl (fun _ => 0))), (x4, .inl (q 0, 32, .inl (fun _ => 0))), (x5, .inl (q 0, 32, .inl (fun _ => 0))), (x6, .inl (q 0, 8, .inl (fun _ => 0))), (x7, .inl (q 0, 8, .inl (fun _ => 0)))]) (pc := 57) X 0 rfl rfl hin_M t_M t_M_ok n_M 8 (by decide) lk173 rfl rfl rfl (t_M_ok 8 (by decide)) rfl rfl (Nat.le_of_ble_eq_true rfl) rfl d_M_init_57 ?_
  refine n_aload_n (pc := 60) X 0 d_M_init_60 rfl rfl ?_
  refine n_bipush (v := (8 : Int32)) (pc := 61) X d_M_init_61 (by decide) ?_
  refine n_newi (ws' := fun x8 => [(x, .inr (0, [.int 0, .ref x1, .int 0, .ref x2, .ref x3, .ref x4, .ref x5, .ref x6, .ref x7, .null, .null, .null, .null, .null, .null, .int 0, .int 0, .null, .null, .null, .null, .null, .int 0, .null, .null, .null, .null, .null])), (x1, .inl (q 1, 8, .inl (fun _ => 0))), (x2, .inl (q 0, 8, .inl (fun _ => 0))), (x3, .inl (q 0, 32, .inl (fun _ => 0))), (x4, .inl (q 0, 32, .inl (fun _ => 0))), (x5, .inl (q 0, 32, .inl (fun _ => 0))), (x6, .inl (q 0, 8, .inl (fun _ => 0))), (x7, .inl (q 0, 8, .inl (fun _ => 0))), (x8, .inl (q 0, 8, .inl (fun _ => 0)))]) (ca' := 8) (sl' := 136) (pc := 63) X 0 rfl (by decide) (by decide) (by decide) rfl rfl (by decide) (by decide) (fun _ => rfl) d_M_init_63 (fun x8 => ?_)
  refine n_putF (ws' := [(x, .inr (0, [.int 0, .ref x1, .int 0, .ref x2, .ref x3, .ref x4, .ref x5, .ref x6, .ref x7, .ref x8, .null, .null, .null, .null, .null, .int 0, .int 0, .null, .null, .null, .null, .null, .int 0, .null, .null, .null, .null, .null])), (x1, .inl (q 1, 8, .inl (fun _ => 0))), (x2, .inl (q 0, 8, .inl (fun _ => 0))), (x3, .inl (q 0, 32, .inl (fun _ => 0))), (x4, .inl (q 0, 32, .inl (fun _ => 0))), (x5, .inl (q 0, 32, .inl (fun _ => 0))), (x6, .inl (q 0, 8, .inl (fun _ => 0))), (x7, .inl (q 0, 8, .inl (fun _ => 0))), (x8, .inl (q 0, 8, .inl (fun _ => 0)))]) (pc := 65) X 0 rfl rfl hin_M t_M t_M_ok n_M 9 (by decide) lk177 rfl rfl rfl (t_M_ok 9 (by decide)) rfl rfl (Nat.le_of_ble_eq_true rfl) rfl d_M_init_65 ?_
  refine n_aload_n (pc := 68) X 0 d_M_init_68 rfl rfl ?_
  refine n_bipush (v := (32 : Int32)) (pc := 69) X d_M_init_69 (by decide) ?_
  refine n_newi (ws' := fun x9 => [(x, .inr (0, [.int 0, .ref x1, .int 0, .ref x2, .ref x3, .ref x4, .ref x5, .ref x6, .ref x7, .ref x8, .null, .null, .null, .null, .null, .int 0, .int 0, .null, .null, .null, .null, .null, .int 0, .null, .null, .null, .null, .null])), (x1, .inl (q 1, 8, .inl (fun _ => 0))), (x2, .inl (q 0, 8, .inl (fun _ => 0))), (x3, .inl (q 0, 32, .inl (fun _ => 0))), (x4, .inl (q 0, 32, .inl (fun _ => 0))), (x5, .inl (q 0, 32, .inl (fun _ => 0))), (x6, .inl (q 0, 8, .inl (fun _ => 0))), (x7, .inl (q 0, 8, .inl (fun _ => 0))), (x8, .inl (q 0, 8, .inl (fun _ => 0))), (x9, .inl (q 0, 32, .inl (fun _ => 0)))]) (ca' := 9) (sl' := 168) (pc := 71) X 0 rfl (by decide) (by decide) (by decide) rfl rfl (by decide) (by decide) (fun _ => rfl) d_M_init_71 (fun x9 => ?_)
  refine n_putF (ws' := [(x, .inr (0, [.int 0, .ref x1, .int 0, .ref x2, .ref x3, .ref x4, .ref x5, .ref x6, .ref x7, .ref x8, .ref x9, .null, .null, .null, .null, .int 0, .int 0, .null, .null, .null, .null, .null, .int 0, .null, .null, .null, .null, .null])), (x1, .inl (q 1, 8, .inl (fun _ => 0))), (x2, .inl (q 0, 8, .inl (fun _ => 0))), (x3, .inl (q 0, 32, .inl (fun _ => 0))), (x4, .inl (q 0, 32, .inl (fun _ => 0))), (x5, .inl (q 0, 32, .inl (fun _ => 0))), (x6, .inl (q 0, 8, .inl (fun _ => 0))), (x7, .inl (q 0, 8, .inl (fun _ => 0))), (x8, .inl (q 0, 8, .inl (fun _ => 0))), (x9, .inl (q 0, 32, .inl (fun _ => 0)))]) (pc := 73) X 0 rfl rfl hin_M t_M t_M_ok n_M 10 (by decide) lk178 rfl rfl rfl (t_M_ok 10 (by decide)) rfl rfl (Nat.le_of_ble_eq_true rfl) rfl d_M_init_73 ?_
  refine n_aload_n (pc := 76) X 0 d_M_init_76 rfl rfl ?_
  refine n_bipush (v := (32 : Int32)) (pc := 77) X d_M_init_77 (by decide) ?_
  refine n_newi (ws' := fun x10 => [(x, .inr (0, [.int 0, .ref x1, .int 0, .ref x2, .ref x3, .ref x4, .ref x5, .ref x6, .ref x7, .ref x8, .ref x9, .null, .null, .null, .null, .int 0, .int 0, .null, .null, .null, .null, .null, .int 0, .null, .null, .null, .null, .null])), (x1, .inl (q 1, 8, .inl (fun _ => 0))), (x2, .inl (q 0, 8, .inl (fun _ => 0))), (x3, .inl (q 0, 32, .inl (fun _ => 0))), (x4, .inl (q 0, 32, .inl (fun _ => 0))), (x5, .inl (q 0, 32, .inl (fun _ => 0))), (x6, .inl (q 0, 8, .inl (fun _ => 0))), (x7, .inl (q 0, 8, .inl (fun _ => 0))), (x8, .inl (q 0, 8, .inl (fun _ => 0))), (x9, .inl (q 0, 32, .inl (fun _ => 0))), (x10, .inl (q 0, 32, .inl (fun _ => 0)))]) (ca' := 10) (sl' := 200) (pc := 79) X 0 rfl (by decide) (by decide) (by decide) rfl rfl (by decide) (by decide) (fun _ => rfl) d_M_init_79 (fun x10 => ?_)
  refine n_putF (ws' := [(x, .inr (0, [.int 0, .ref x1, .int 0, .ref x2, .ref x3, .ref x4, .ref x5, .ref x6, .ref x7, .ref x8, .ref x9, .ref x10, .null, .null, .null, .int 0, .int 0, .null, .null, .null, .null, .null, .int 0, .null, .null, .null, .null, .null])), (x1, .inl (q 1, 8, .inl (fun _ => 0))), (x2, .inl (q 0, 8, .inl (fun _ => 0))), (x3, .inl (q 0, 32, .inl (fun _ => 0))), (x4, .inl (q 0, 32, .inl (fun _ => 0))), (x5, .inl (q 0, 32, .inl (fun _ => 0))), (x6, .inl (q 0, 8, .inl (fun _ => 0))), (x7, .inl (q 0, 8, .inl (fun _ => 0))), (x8, .inl (q 0, 8, .inl (fun _ => 0))), (x9, .inl (q 0, 32, .inl (fun _ => 0))), (x10, .inl (q 0, 32, .inl (fun _ => 0)))]) (pc := 81) X 0 rfl rfl hin_M t_M t_M_ok n_M 11 (by decide) lk179 rfl rfl rfl (t_M_ok 11 (by decide)) rfl rfl (Nat.le_of_ble_eq_true rfl) rfl d_M_init_81 ?_
  refine n_aload_n (pc := 84) X 0 d_M_init_84 rfl rfl ?_
  refine n_bipush (v := (32 : Int32)) (pc := 85) X d_M_init_85 (by decide) ?_
  refine n_newi (ws' := fun x11 => [(x, .inr (0, [.int 0, .ref x1, .int 0, .ref x2, .ref x3, .ref x4, .ref x5, .ref x6, .ref x7, .ref x8, .ref x9, .ref x10, .null, .null, .null, .int 0, .int 0, .null, .null, .null, .null, .null, .int 0, .null, .null, .null, .null, .null])), (x1, .inl (q 1, 8, .inl (fun _ => 0))), (x2, .inl (q 0, 8, .inl (fun _ => 0))), (x3, .inl (q 0, 32, .inl (fun _ => 0))), (x4, .inl (q 0, 32, .inl (fun _ => 0))), (x5, .inl (q 0, 32, .inl (fun _ => 0))), (x6, .inl (q 0, 8, .inl (fun _ => 0))), (x7, .inl (q 0, 8, .inl (fun _ => 0))), (x8, .inl (q 0, 8, .inl (fun _ => 0))), (x9, .inl (q 0, 32, .inl (fun _ => 0))), (x10, .inl (q 0, 32, .inl (fun _ => 0))), (x11, .inl (q 0, 32, .inl (fun _ => 0)))]) (ca' := 11) (sl' := 232) (pc := 87) X 0 rfl (by decide) (by decide) (by decide) rfl rfl (by decide) (by decide) (fun _ => rfl) d_M_init_87 (fun x11 => ?_)
  refine n_putF (ws' := [(x, .inr (0, [.int 0, .ref x1, .int 0, .ref x2, .ref x3, .ref x4, .ref x5, .ref x6, .ref x7, .ref x8, .ref x9, .ref x10, .ref x11, .null, .null, .int 0, .int 0, .null, .null, .null, .null, .null, .int 0, .null, .null, .null, .null, .null])), (x1, .inl (q 1, 8, .inl (fun _ => 0))), (x2, .inl (q 0, 8, .inl (fun _ => 0))), (x3, .inl (q 0, 32, .inl (fun _ => 0))), (x4, .inl (q 0, 32, .inl (fun _ => 0))), (x5, .inl (q 0, 32, .inl (fun _ => 0))), (x6, .inl (q 0, 8, .inl (fun _ => 0))), (x7, .inl (q 0, 8, .inl (fun _ => 0))), (x8, .inl (q 0, 8, .inl (fun _ => 0))), (x9, .inl (q 0, 32, .inl (fun _ => 0))), (x10, .inl (q 0, 32, .inl (fun _ => 0))), (x11, .inl (q 0, 32, .inl (fun _ => 0)))]) (pc := 89) X 0 rfl rfl hin_M t_M t_M_ok n_M 12 (by decide) lk180 rfl rfl rfl (t_M_ok 12 (by decide)) rfl rfl (Nat.le_of_ble_eq_true rfl) rfl d_M_init_89 ?_
  refine n_aload_n (pc := 92) X 0 d_M_init_92 rfl rfl ?_
  refine n_bipush (v := (32 : Int32)) (pc := 93) X d_M_init_93 (by decide) ?_
  refine n_newi (ws' := fun x12 => [(x, .inr (0, [.int 0, .ref x1, .int 0, .ref x2, .ref x3, .ref x4, .ref x5, .ref x6, .ref x7, .ref x8, .ref x9, .ref x10, .ref x11, .null, .null, .int 0, .int 0, .null, .null, .null, .null, .null, .int 0, .null, .null, .null, .null, .null])), (x1, .inl (q 1, 8, .inl (fun _ => 0))), (x2, .inl (q 0, 8, .inl (fun _ => 0))), (x3, .inl (q 0, 32, .inl (fun _ => 0))), (x4, .inl (q 0, 32, .inl (fun _ => 0))), (x5, .inl (q 0, 32, .inl (fun _ => 0))), (x6, .inl (q 0, 8, .inl (fun _ => 0))), (x7, .inl (q 0, 8, .inl (fun _ => 0))), (x8, .inl (q 0, 8, .inl (fun _ => 0))), (x9, .inl (q 0, 32, .inl (fun _ => 0))), (x10, .inl (q 0, 32, .inl (fun _ => 0))), (x11, .inl (q 0, 32, .inl (fun _ => 0))), (x12, .inl (q 0, 32, .inl (fun _ => 0)))]) (ca' := 12) (sl' := 264) (pc := 95) X 0 rfl (by decide) (by decide) (by decide) rfl rfl (by decide) (by decide) (fun _ => rfl) d_M_init_95 (fun x12 => ?_)
  refine n_putF (ws' := [(x, .inr (0, [.int 0, .ref x1, .int 0, .ref x2, .ref x3, .ref x4, .ref x5, .ref x6, .ref x7, .ref x8, .ref x9, .ref x10, .ref x11, .ref x12, .null, .int 0, .int 0, .null, .null, .null, .null, .null, .int 0, .null, .null, .null, .null, .null])), (x1, .inl (q 1, 8, .inl (fun _ => 0))), (x2, .inl (q 0, 8, .inl (fun _ => 0))), (x3, .inl (q 0, 32, .inl (fun _ => 0))), (x4, .inl (q 0, 32, .inl (fun _ => 0))), (x5, .inl (q 0, 32, .inl (fun _ => 0))), (x6, .inl (q 0, 8, .inl (fun _ => 0))), (x7, .inl (q 0, 8, .inl (fun _ => 0))), (x8, .inl (q 0, 8, .inl (fun _ => 0))), (x9, .inl (q 0, 32, .inl (fun _ => 0))), (x10, .inl (q 0, 32, .inl (fun _ => 0))), (x11, .inl (q 0, 32, .inl (fun _ => 0))), (x12, .inl (q 0, 32, .inl (fun _ => 0)))]) (pc := 97) X 0 rfl rfl hin_M t_M t_M_ok n_M 13 (by decide) lk181 rfl rfl rfl (t_M_ok 13 (by decide)) rfl rfl (Nat.le_of_ble_eq_true rfl) rfl d_M_init_97 ?_
  refine n_aload_n (pc := 100) X 0 d_M_init_100 rfl rfl ?_
  refine n_bipush (v := (32 : Int32)) (pc := 101) X d_M_init_101 (by decide) ?_
  refine n_newi (ws' := fun x13 => [(x, .inr (0, [.int 0, .ref x1, .int 0, .ref x2, .ref x3, .ref x4, .ref x5, .ref x6, .ref x7, .ref x8, .ref x9, .ref x10, .ref x11, .ref x12, .null, .int 0, .int 0, .null, .null, .null, .null, .null, .int 0, .null, .null, .null, .null, .null])), (x1, .inl (q 1, 8, .inl (fun _ => 0))), (x2, .inl (q 0, 8, .inl (fun _ => 0))), (x3, .inl (q 0, 32, .inl (fun _ => 0))), (x4, .inl (q 0, 32, .inl (fun _ => 0))), (x5, .inl (q 0, 32, .inl (fun _ => 0))), (x6, .inl (q 0, 8, .inl (fun _ => 0))), (x7, .inl (q 0, 8, .inl (fun _ => 0))), (x8, .inl (q 0, 8, .inl (fun _ => 0))), (x9, .inl (q 0, 32, .inl (fun _ => 0))), (x10, .inl (q 0, 32, .inl (fun _ => 0))), (x11, .inl (q 0, 32, .inl (fun _ => 0))), (x12, .inl (q 0, 32, .inl (fun _ => 0))), (x13, .inl (q 0, 32, .inl (fun _ => 0)))]) (ca' := 13) (sl' := 296) (pc := 103) X 0 rfl (by decide) (by decide) (by decide) rfl rfl (by decide) (by decide) (fun _ => rfl) d_M_init_103 (fun x13 => ?_)
  refine n_putF (ws' := [(x, .inr (0, [.int 0, .ref x1, .int 0, .ref x2, .ref x3, .ref x4, .ref x5, .ref x6, .ref x7, .ref x8, .ref x9, .ref x10, .ref x11, .ref x12, .ref x13, .int 0, .int 0, .null, .null, .null, .null, .null, .int 0, .null, .null, .null, .null, .null])), (x1, .inl (q 1, 8, .inl (fun _ => 0))), (x2, .inl (q 0, 8, .inl (fun _ => 0))), (x3, .inl (q 0, 32, .inl (fun _ => 0))), (x4, .inl (q 0, 32, .inl (fun _ => 0))), (x5, .inl (q 0, 32, .inl (fun _ => 0))), (x6, .inl (q 0, 8, .inl (fun _ => 0))), (x7, .inl (q 0, 8, .inl (fun _ => 0))), (x8, .inl (q 0, 8, .inl (fun _ => 0))), (x9, .inl (q 0, 32, .inl (fun _ => 0))), (x10, .inl (q 0, 32, .inl (fun _ => 0))), (x11, .inl (q 0, 32, .inl (fun _ => 0))), (x12, .inl (q 0, 32, .inl (fun _ => 0))), (x13, .inl (q 0, 32, .inl (fun _ => 0)))]) (pc := 105) X 0 rfl rfl hin_M t_M t_M_ok n_M 14 (by decide) lk185 rfl rfl rfl (t_M_ok 14 (by decide)) rfl rfl (Nat.le_of_ble_eq_true rfl) rfl d_M_init_105 ?_
  refine n_aload_n (pc := 108) X 0 d_M_init_108 rfl rfl ?_
  refine n_sipush (v := (300 : Int32)) (pc := 109) X d_M_init_109 (by decide) ?_
  refine n_newi (ws' := fun x14 => [(x, .inr (0, [.int 0, .ref x1, .int 0, .ref x2, .ref x3, .ref x4, .ref x5, .ref x6, .ref x7, .ref x8, .ref x9, .ref x10, .ref x11, .ref x12, .ref x13, .int 0, .int 0, .null, .null, .null, .null, .null, .int 0, .null, .null, .null, .null, .null])), (x1, .inl (q 1, 8, .inl (fun _ => 0))), (x2, .inl (q 0, 8, .inl (fun _ => 0))), (x3, .inl (q 0, 32, .inl (fun _ => 0))), (x4, .inl (q 0, 32, .inl (fun _ => 0))), (x5, .inl (q 0, 32, .inl (fun _ => 0))), (x6, .inl (q 0, 8, .inl (fun _ => 0))), (x7, .inl (q 0, 8, .inl (fun _ => 0))), (x8, .inl (q 0, 8, .inl (fun _ => 0))), (x9, .inl (q 0, 32, .inl (fun _ => 0))), (x10, .inl (q 0, 32, .inl (fun _ => 0))), (x11, .inl (q 0, 32, .inl (fun _ => 0))), (x12, .inl (q 0, 32, .inl (fun _ => 0))), (x13, .inl (q 0, 32, .inl (fun _ => 0))), (x14, .inl (q 0, 300, .inl (fun _ => 0)))]) (ca' := 14) (sl' := 596) (pc := 112) X 0 rfl (by decide) (by decide) (by decide) rfl rfl (by decide) (by decide) (fun _ => rfl) d_M_init_112 (fun x14 => ?_)
  refine n_putF (ws' := [(x, .inr (0, [.int 0, .ref x1, .int 0, .ref x2, .ref x3, .ref x4, .ref x5, .ref x6, .ref x7, .ref x8, .ref x9, .ref x10, .ref x11, .ref x12, .ref x13, .int 0, .int 0, .ref x14, .null, .null, .null, .null, .int 0, .null, .null, .null, .null, .null])), (x1, .inl (q 1, 8, .inl (fun _ => 0))), (x2, .inl (q 0, 8, .inl (fun _ => 0))), (x3, .inl (q 0, 32, .inl (fun _ => 0))), (x4, .inl (q 0, 32, .inl (fun _ => 0))), (x5, .inl (q 0, 32, .inl (fun _ => 0))), (x6, .inl (q 0, 8, .inl (fun _ => 0))), (x7, .inl (q 0, 8, .inl (fun _ => 0))), (x8, .inl (q 0, 8, .inl (fun _ => 0))), (x9, .inl (q 0, 32, .inl (fun _ => 0))), (x10, .inl (q 0, 32, .inl (fun _ => 0))), (x11, .inl (q 0, 32, .inl (fun _ => 0))), (x12, .inl (q 0, 32, .inl (fun _ => 0))), (x13, .inl (q 0, 32, .inl (fun _ => 0))), (x14, .inl (q 0, 300, .inl (fun _ => 0)))]) (pc := 114) X 0 rfl rfl hin_M t_M t_M_ok n_M 17 (by decide) lk192 rfl rfl rfl (t_M_ok 17 (by decide)) rfl rfl (Nat.le_of_ble_eq_true rfl) rfl d_M_init_114 ?_
  refine n_aload_n (pc := 117) X 0 d_M_init_117 rfl rfl ?_
  refine n_sipush (v := (300 : Int32)) (pc := 118) X d_M_init_118 (by decide) ?_
  refine n_newi (ws' := fun x15 => [(x, .inr (0, [.int 0, .ref x1, .int 0, .ref x2, .ref x3, .ref x4, .ref x5, .ref x6, .ref x7, .ref x8, .ref x9, .ref x10, .ref x11, .ref x12, .ref x13, .int 0, .int 0, .ref x14, .null, .null, .null, .null, .int 0, .null, .null, .null, .null, .null])), (x1, .inl (q 1, 8, .inl (fun _ => 0))), (x2, .inl (q 0, 8, .inl (fun _ => 0))), (x3, .inl (q 0, 32, .inl (fun _ => 0))), (x4, .inl (q 0, 32, .inl (fun _ => 0))), (x5, .inl (q 0, 32, .inl (fun _ => 0))), (x6, .inl (q 0, 8, .inl (fun _ => 0))), (x7, .inl (q 0, 8, .inl (fun _ => 0))), (x8, .inl (q 0, 8, .inl (fun _ => 0))), (x9, .inl (q 0, 32, .inl (fun _ => 0))), (x10, .inl (q 0, 32, .inl (fun _ => 0))), (x11, .inl (q 0, 32, .inl (fun _ => 0))), (x12, .inl (q 0, 32, .inl (fun _ => 0))), (x13, .inl (q 0, 32, .inl (fun _ => 0))), (x14, .inl (q 0, 300, .inl (fun _ => 0))), (x15, .inl (q 0, 300, .inl (fun _ => 0)))]) (ca' := 15) (sl' := 896) (pc := 121) X 0 rfl (by decide) (by decide) (by decide) rfl rfl (by decide) (by decide) (fun _ => rfl) d_M_init_121 (fun x15 => ?_)
  refine n_putF (ws' := [(x, .inr (0, [.int 0, .ref x1, .int 0, .ref x2, .ref x3, .ref x4, .ref x5, .ref x6, .ref x7, .ref x8, .ref x9, .ref x10, .ref x11, .ref x12, .ref x13, .int 0, .int 0, .ref x14, .ref x15, .null, .null, .null, .int 0, .null, .null, .null, .null, .null])), (x1, .inl (q 1, 8, .inl (fun _ => 0))), (x2, .inl (q 0, 8, .inl (fun _ => 0))), (x3, .inl (q 0, 32, .inl (fun _ => 0))), (x4, .inl (q 0, 32, .inl (fun _ => 0))), (x5, .inl (q 0, 32, .inl (fun _ => 0))), (x6, .inl (q 0, 8, .inl (fun _ => 0))), (x7, .inl (q 0, 8, .inl (fun _ => 0))), (x8, .inl (q 0, 8, .inl (fun _ => 0))), (x9, .inl (q 0, 32, .inl (fun _ => 0))), (x10, .inl (q 0, 32, .inl (fun _ => 0))), (x11, .inl (q 0, 32, .inl (fun _ => 0))), (x12, .inl (q 0, 32, .inl (fun _ => 0))), (x13, .inl (q 0, 32, .inl (fun _ => 0))), (x14, .inl (q 0, 300, .inl (fun _ => 0))), (x15, .inl (q 0, 300, .inl (fun _ => 0)))]) (pc := 123) X 0 rfl rfl hin_M t_M t_M_ok n_M 18 (by decide) lk194 rfl rfl rfl (t_M_ok 18 (by decide)) rfl rfl (Nat.le_of_ble_eq_true rfl) rfl d_M_init_123 ?_
  refine n_aload_n (pc := 126) X 0 d_M_init_126 rfl rfl ?_
  refine n_sipush (v := (300 : Int32)) (pc := 127) X d_M_init_127 (by decide) ?_
  refine n_newi (ws' := fun x16 => [(x, .inr (0, [.int 0, .ref x1, .int 0, .ref x2, .ref x3, .ref x4, .ref x5, .ref x6, .ref x7, .ref x8, .ref x9, .ref x10, .ref x11, .ref x12, .ref x13, .int 0, .int 0, .ref x14, .ref x15, .null, .null, .null, .int 0, .null, .null, .null, .null, .null])), (x1, .inl (q 1, 8, .inl (fun _ => 0))), (x2, .inl (q 0, 8, .inl (fun _ => 0))), (x3, .inl (q 0, 32, .inl (fun _ => 0))), (x4, .inl (q 0, 32, .inl (fun _ => 0))), (x5, .inl (q 0, 32, .inl (fun _ => 0))), (x6, .inl (q 0, 8, .inl (fun _ => 0))), (x7, .inl (q 0, 8, .inl (fun _ => 0))), (x8, .inl (q 0, 8, .inl (fun _ => 0))), (x9, .inl (q 0, 32, .inl (fun _ => 0))), (x10, .inl (q 0, 32, .inl (fun _ => 0))), (x11, .inl (q 0, 32, .inl (fun _ => 0))), (x12, .inl (q 0, 32, .inl (fun _ => 0))), (x13, .inl (q 0, 32, .inl (fun _ => 0))), (x14, .inl (q 0, 300, .inl (fun _ => 0))), (x15, .inl (q 0, 300, .inl (fun _ => 0))), (x16, .inl (q 0, 300, .inl (fun _ => 0)))]) (ca' := 16) (sl' := 1196) (pc := 130) X 0 rfl (by decide) (by decide) (by decide) rfl rfl (by decide) (by decide) (fun _ => rfl) d_M_init_130 (fun x16 => ?_)
  refine n_putF (ws' := [(x, .inr (0, [.int 0, .ref x1, .int 0, .ref x2, .ref x3, .ref x4, .ref x5, .ref x6, .ref x7, .ref x8, .ref x9, .ref x10, .ref x11, .ref x12, .ref x13, .int 0, .int 0, .ref x14, .ref x15, .ref x16, .null, .null, .int 0, .null, .null, .null, .null, .null])), (x1, .inl (q 1, 8, .inl (fun _ => 0))), (x2, .inl (q 0, 8, .inl (fun _ => 0))), (x3, .inl (q 0, 32, .inl (fun _ => 0))), (x4, .inl (q 0, 32, .inl (fun _ => 0))), (x5, .inl (q 0, 32, .inl (fun _ => 0))), (x6, .inl (q 0, 8, .inl (fun _ => 0))), (x7, .inl (q 0, 8, .inl (fun _ => 0))), (x8, .inl (q 0, 8, .inl (fun _ => 0))), (x9, .inl (q 0, 32, .inl (fun _ => 0))), (x10, .inl (q 0, 32, .inl (fun _ => 0))), (x11, .inl (q 0, 32, .inl (fun _ => 0))), (x12, .inl (q 0, 32, .inl (fun _ => 0))), (x13, .inl (q 0, 32, .inl (fun _ => 0))), (x14, .inl (q 0, 300, .inl (fun _ => 0))), (x15, .inl (q 0, 300, .inl (fun _ => 0))), (x16, .inl (q 0, 300, .inl (fun _ => 0)))]) (pc := 132) X 0 rfl rfl hin_M t_M t_M_ok n_M 19 (by decide) lk195 rfl rfl rfl (t_M_ok 19 (by decide)) rfl rfl (Nat.le_of_ble_eq_true rfl) rfl d_M_init_132 ?_
  refine n_aload_n (pc := 135) X 0 d_M_init_135 rfl rfl ?_
  refine n_sipush (v := (300 : Int32)) (pc := 136) X d_M_init_136 (by decide) ?_
  refine n_newi (ws' := fun x17 => [(x, .inr (0, [.int 0, .ref x1, .int 0, .ref x2, .ref x3, .ref x4, .ref x5, .ref x6, .ref x7, .ref x8, .ref x9, .ref x10, .ref x11, .ref x12, .ref x13, .int 0, .int 0, .ref x14, .ref x15, .ref x16, .null, .null, .int 0, .null, .null, .null, .null, .null])), (x1, .inl (q 1, 8, .inl (fun _ => 0))), (x2, .inl (q 0, 8, .inl (fun _ => 0))), (x3, .inl (q 0, 32, .inl (fun _ => 0))), (x4, .inl (q 0, 32, .inl (fun _ => 0))), (x5, .inl (q 0, 32, .inl (fun _ => 0))), (x6, .inl (q 0, 8, .inl (fun _ => 0))), (x7, .inl (q 0, 8, .inl (fun _ => 0))), (x8, .inl (q 0, 8, .inl (fun _ => 0))), (x9, .inl (q 0, 32, .inl (fun _ => 0))), (x10, .inl (q 0, 32, .inl (fun _ => 0))), (x11, .inl (q 0, 32, .inl (fun _ => 0))), (x12, .inl (q 0, 32, .inl (fun _ => 0))), (x13, .inl (q 0, 32, .inl (fun _ => 0))), (x14, .inl (q 0, 300, .inl (fun _ => 0))), (x15, .inl (q 0, 300, .inl (fun _ => 0))), (x16, .inl (q 0, 300, .inl (fun _ => 0))), (x17, .inl (q 0, 300, .inl (fun _ => 0)))]) (ca' := 17) (sl' := 1496) (pc := 139) X 0 rfl (by decide) (by decide) (by decide) rfl rfl (by decide) (by decide) (fun _ => rfl) d_M_init_139 (fun x17 => ?_)
  refine n_putF (ws' := [(x, .inr (0, [.int 0, .ref x1, .int 0, .ref x2, .ref x3, .ref x4, .ref x5, .ref x6, .ref x7, .ref x8, .ref x9, .ref x10, .ref x11, .ref x12, .ref x13, .int 0, .int 0, .ref x14, .ref x15, .ref x16, .ref x17, .null, .int 0, .null, .null, .null, .null, .null])), (x1, .inl (q 1, 8, .inl (fun _ => 0))), (x2, .inl (q 0, 8, .inl (fun _ => 0))), (x3, .inl (q 0, 32, .inl (fun _ => 0))), (x4, .inl (q 0, 32, .inl (fun _ => 0))), (x5, .inl (q 0, 32, .inl (fun _ => 0))), (x6, .inl (q 0, 8, .inl (fun _ => 0))), (x7, .inl (q 0, 8, .inl (fun _ => 0))), (x8, .inl (q 0, 8, .inl (fun _ => 0))), (x9, .inl (q 0, 32, .inl (fun _ => 0))), (x10, .inl (q 0, 32, .inl (fun _ => 0))), (x11, .inl (q 0, 32, .inl (fun _ => 0))), (x12, .inl (q 0, 32, .inl (fun _ => 0))), (x13, .inl (q 0, 32, .inl (fun _ => 0))), (x14, .inl (q 0, 300, .inl (fun _ => 0))), (x15, .inl (q 0, 300, .inl (fun _ => 0))), (x16, .inl (q 0, 300, .inl (fun _ => 0))), (x17, .inl (q 0, 300, .inl (fun _ => 0)))]) (pc := 141) X 0 rfl rfl hin_M t_M t_M_ok n_M 20 (by decide) lk196 rfl rfl rfl (t_M_ok 20 (by decide)) rfl rfl (Nat.le_of_ble_eq_true rfl) rfl d_M_init_141 ?_
  refine n_aload_n (pc := 144) X 0 d_M_init_144 rfl rfl ?_
  refine n_sipush (v := (300 : Int32)) (pc := 145) X d_M_init_145 (by decide) ?_
  refine n_newi (ws' := fun x18 => [(x, .inr (0, [.int 0, .ref x1, .int 0, .ref x2, .ref x3, .ref x4, .ref x5, .ref x6, .ref x7, .ref x8, .ref x9, .ref x10, .ref x11, .ref x12, .ref x13, .int 0, .int 0, .ref x14, .ref x15, .ref x16, .ref x17, .null, .int 0, .null, .null, .null, .null, .null])), (x1, .inl (q 1, 8, .inl (fun _ => 0))), (x2, .inl (q 0, 8, .inl (fun _ => 0))), (x3, .inl (q 0, 32, .inl (fun _ => 0))), (x4, .inl (q 0, 32, .inl (fun _ => 0))), (x5, .inl (q 0, 32, .inl (fun _ => 0))), (x6, .inl (q 0, 8, .inl (fun _ => 0))), (x7, .inl (q 0, 8, .inl (fun _ => 0))), (x8, .inl (q 0, 8, .inl (fun _ => 0))), (x9, .inl (q 0, 32, .inl (fun _ => 0))), (x10, .inl (q 0, 32, .inl (fun _ => 0))), (x11, .inl (q 0, 32, .inl (fun _ => 0))), (x12, .inl (q 0, 32, .inl (fun _ => 0))), (x13, .inl (q 0, 32, .inl (fun _ => 0))), (x14, .inl (q 0, 300, .inl (fun _ => 0))), (x15, .inl (q 0, 300, .inl (fun _ => 0))), (x16, .inl (q 0, 300, .inl (fun _ => 0))), (x17, .inl (q 0, 300, .inl (fun _ => 0))), (x18, .inl (q 0, 300, .inl (fun _ => 0)))]) (ca' := 18) (sl' := 1796) (pc := 148) X 0 rfl (by decide) (by decide) (by decide) rfl rfl (by decide) (by decide) (fun _ => rfl) d_M_init_148 (fun x18 => ?_)
  refine n_putF (ws' := [(x, .inr (0, [.int 0, .ref x1, .int 0, .ref x2, .ref x3, .ref x4, .ref x5, .ref x6, .ref x7, .ref x8, .ref x9, .ref x10, .ref x11, .ref x12, .ref x13, .int 0, .int 0, .ref x14, .ref x15, .ref x16, .ref x17, .ref x18, .int 0, .null, .null, .null, .null, .null])), (x1, .inl (q 1, 8, .inl (fun _ => 0))), (x2, .inl (q 0, 8, .inl (fun _ => 0))), (x3, .inl (q 0, 32, .inl (fun _ => 0))), (x4, .inl (q 0, 32, .inl (fun _ => 0))), (x5, .inl (q 0, 32, .inl (fun _ => 0))), (x6, .inl (q 0, 8, .inl (fun _ => 0))), (x7, .inl (q 0, 8, .inl (fun _ => 0))), (x8, .inl (q 0, 8, .inl (fun _ => 0))), (x9, .inl (q 0, 32, .inl (fun _ => 0))), (x10, .inl (q 0, 32, .inl (fun _ => 0))), (x11, .inl (q 0, 32, .inl (fun _ => 0))), (x12, .inl (q 0, 32, .inl (fun _ => 0))), (x13, .inl (q 0, 32, .inl (fun _ => 0))), (x14, .inl (q 0, 300, .inl (fun _ => 0))), (x15, .inl (q 0, 300, .inl (fun _ => 0))), (x16, .inl (q 0, 300, .inl (fun _ => 0))), (x17, .inl (q 0, 300, .inl (fun _ => 0))), (x18, .inl (q 0, 300, .inl (fun _ => 0)))]) (pc := 150) X 0 rfl rfl hin_M t_M t_M_ok n_M 21 (by decide) lk242 rfl rfl rfl (t_M_ok 21 (by decide)) rfl rfl (Nat.le_of_ble_eq_true rfl) rfl d_M_init_150 ?_
  refine n_aload_n (pc := 153) X 0 d_M_init_153 rfl rfl ?_
  refine n_sipush (v := (300 : Int32)) (pc := 154) X d_M_init_154 (by decide) ?_
  refine n_newi (ws' := fun x19 => [(x, .inr (0, [.int 0, .ref x1, .int 0, .ref x2, .ref x3, .ref x4, .ref x5, .ref x6, .ref x7, .ref x8, .ref x9, .ref x10, .ref x11, .ref x12, .ref x13, .int 0, .int 0, .ref x14, .ref x15, .ref x16, .ref x17, .ref x18, .int 0, .null, .null, .null, .null, .null])), (x1, .inl (q 1, 8, .inl (fun _ => 0))), (x2, .inl (q 0, 8, .inl (fun _ => 0))), (x3, .inl (q 0, 32, .inl (fun _ => 0))), (x4, .inl (q 0, 32, .inl (fun _ => 0))), (x5, .inl (q 0, 32, .inl (fun _ => 0))), (x6, .inl (q 0, 8, .inl (fun _ => 0))), (x7, .inl (q 0, 8, .inl (fun _ => 0))), (x8, .inl (q 0, 8, .inl (fun _ => 0))), (x9, .inl (q 0, 32, .inl (fun _ => 0))), (x10, .inl (q 0, 32, .inl (fun _ => 0))), (x11, .inl (q 0, 32, .inl (fun _ => 0))), (x12, .inl (q 0, 32, .inl (fun _ => 0))), (x13, .inl (q 0, 32, .inl (fun _ => 0))), (x14, .inl (q 0, 300, .inl (fun _ => 0))), (x15, .inl (q 0, 300, .inl (fun _ => 0))), (x16, .inl (q 0, 300, .inl (fun _ => 0))), (x17, .inl (q 0, 300, .inl (fun _ => 0))), (x18, .inl (q 0, 300, .inl (fun _ => 0))), (x19, .inl (q 0, 300, .inl (fun _ => 0)))]) (ca' := 19) (sl' := 2096) (pc := 157) X 0 rfl (by decide) (by decide) (by decide) rfl rfl (by decide) (by decide) (fun _ => rfl) d_M_init_157 (fun x19 => ?_)
  refine n_putF (ws' := [(x, .inr (0, [.int 0, .ref x1, .int 0, .ref x2, .ref x3, .ref x4, .ref x5, .ref x6, .ref x7, .ref x8, .ref x9, .ref x10, .ref x11, .ref x12, .ref x13, .int 0, .int 0, .ref x14, .ref x15, .ref x16, .ref x17, .ref x18, .int 0, .ref x19, .null, .null, .null, .null])), (x1, .inl (q 1, 8, .inl (fun _ => 0))), (x2, .inl (q 0, 8, .inl (fun _ => 0))), (x3, .inl (q 0, 32, .inl (fun _ => 0))), (x4, .inl (q 0, 32, .inl (fun _ => 0))), (x5, .inl (q 0, 32, .inl (fun _ => 0))), (x6, .inl (q 0, 8, .inl (fun _ => 0))), (x7, .inl (q 0, 8, .inl (fun _ => 0))), (x8, .inl (q 0, 8, .inl (fun _ => 0))), (x9, .inl (q 0, 32, .inl (fun _ => 0))), (x10, .inl (q 0, 32, .inl (fun _ => 0))), (x11, .inl (q 0, 32, .inl (fun _ => 0))), (x12, .inl (q 0, 32, .inl (fun _ => 0))), (x13, .inl (q 0, 32, .inl (fun _ => 0))), (x14, .inl (q 0, 300, .inl (fun _ => 0))), (x15, .inl (q 0, 300, .inl (fun _ => 0))), (x16, .inl (q 0, 300, .inl (fun _ => 0))), (x17, .inl (q 0, 300, .inl (fun _ => 0))), (x18, .inl (q 0, 300, .inl (fun _ => 0))), (x19, .inl (q 0, 300, .inl (fun _ => 0)))]) (pc := 159) X 0 rfl rfl hin_M t_M t_M_ok n_M 23 (by decide) lk235 rfl rfl rfl (t_M_ok 23 (by decide)) rfl rfl (Nat.le_of_ble_eq_true rfl) rfl d_M_init_159 ?_
  refine n_aload_n (pc := 162) X 0 d_M_init_162 rfl rfl ?_
  refine n_bipush (v := (48 : Int32)) (pc := 163) X d_M_init_163 (by decide) ?_
  refine n_newi (ws' := fun x20 => [(x, .inr (0, [.int 0, .ref x1, .int 0, .ref x2, .ref x3, .ref x4, .ref x5, .ref x6, .ref x7, .ref x8, .ref x9, .ref x10, .ref x11, .ref x12, .ref x13, .int 0, .int 0, .ref x14, .ref x15, .ref x16, .ref x17, .ref x18, .int 0, .ref x19, .null, .null, .null, .null])), (x1, .inl (q 1, 8, .inl (fun _ => 0))), (x2, .inl (q 0, 8, .inl (fun _ => 0))), (x3, .inl (q 0, 32, .inl (fun _ => 0))), (x4, .inl (q 0, 32, .inl (fun _ => 0))), (x5, .inl (q 0, 32, .inl (fun _ => 0))), (x6, .inl (q 0, 8, .inl (fun _ => 0))), (x7, .inl (q 0, 8, .inl (fun _ => 0))), (x8, .inl (q 0, 8, .inl (fun _ => 0))), (x9, .inl (q 0, 32, .inl (fun _ => 0))), (x10, .inl (q 0, 32, .inl (fun _ => 0))), (x11, .inl (q 0, 32, .inl (fun _ => 0))), (x12, .inl (q 0, 32, .inl (fun _ => 0))), (x13, .inl (q 0, 32, .inl (fun _ => 0))), (x14, .inl (q 0, 300, .inl (fun _ => 0))), (x15, .inl (q 0, 300, .inl (fun _ => 0))), (x16, .inl (q 0, 300, .inl (fun _ => 0))), (x17, .inl (q 0, 300, .inl (fun _ => 0))), (x18, .inl (q 0, 300, .inl (fun _ => 0))), (x19, .inl (q 0, 300, .inl (fun _ => 0))), (x20, .inl (q 0, 48, .inl (fun _ => 0)))]) (ca' := 20) (sl' := 2144) (pc := 165) X 0 rfl (by decide) (by decide) (by decide) rfl rfl (by decide) (by decide) (fun _ => rfl) d_M_init_165 (fun x20 => ?_)
  refine n_putF (ws' := [(x, .inr (0, [.int 0, .ref x1, .int 0, .ref x2, .ref x3, .ref x4, .ref x5, .ref x6, .ref x7, .ref x8, .ref x9, .ref x10, .ref x11, .ref x12, .ref x13, .int 0, .int 0, .ref x14, .ref x15, .ref x16, .ref x17, .ref x18, .int 0, .ref x19, .ref x20, .null, .null, .null])), (x1, .inl (q 1, 8, .inl (fun _ => 0))), (x2, .inl (q 0, 8, .inl (fun _ => 0))), (x3, .inl (q 0, 32, .inl (fun _ => 0))), (x4, .inl (q 0, 32, .inl (fun _ => 0))), (x5, .inl (q 0, 32, .inl (fun _ => 0))), (x6, .inl (q 0, 8, .inl (fun _ => 0))), (x7, .inl (q 0, 8, .inl (fun _ => 0))), (x8, .inl (q 0, 8, .inl (fun _ => 0))), (x9, .inl (q 0, 32, .inl (fun _ => 0))), (x10, .inl (q 0, 32, .inl (fun _ => 0))), (x11, .inl (q 0, 32, .inl (fun _ => 0))), (x12, .inl (q 0, 32, .inl (fun _ => 0))), (x13, .inl (q 0, 32, .inl (fun _ => 0))), (x14, .inl (q 0, 300, .inl (fun _ => 0))), (x15, .inl (q 0, 300, .inl (fun _ => 0))), (x16, .inl (q 0, 300, .inl (fun _ => 0))), (x17, .inl (q 0, 300, .inl (fun _ => 0))), (x18, .inl (q 0, 300, .inl (fun _ => 0))), (x19, .inl (q 0, 300, .inl (fun _ => 0))), (x20, .inl (q 0, 48, .inl (fun _ => 0)))]) (pc := 167) X 0 rfl rfl hin_M t_M t_M_ok n_M 24 (by decide) lk197 rfl rfl rfl (t_M_ok 24 (by decide)) rfl rfl (Nat.le_of_ble_eq_true rfl) rfl d_M_init_167 ?_
  refine n_aload_n (pc := 170) X 0 d_M_init_170 rfl rfl ?_
  refine n_bipush (v := (8 : Int32)) (pc := 171) X d_M_init_171 (by decide) ?_
  refine n_newi (ws' := fun x21 => [(x, .inr (0, [.int 0, .ref x1, .int 0, .ref x2, .ref x3, .ref x4, .ref x5, .ref x6, .ref x7, .ref x8, .ref x9, .ref x10, .ref x11, .ref x12, .ref x13, .int 0, .int 0, .ref x14, .ref x15, .ref x16, .ref x17, .ref x18, .int 0, .ref x19, .ref x20, .null, .null, .null])), (x1, .inl (q 1, 8, .inl (fun _ => 0))), (x2, .inl (q 0, 8, .inl (fun _ => 0))), (x3, .inl (q 0, 32, .inl (fun _ => 0))), (x4, .inl (q 0, 32, .inl (fun _ => 0))), (x5, .inl (q 0, 32, .inl (fun _ => 0))), (x6, .inl (q 0, 8, .inl (fun _ => 0))), (x7, .inl (q 0, 8, .inl (fun _ => 0))), (x8, .inl (q 0, 8, .inl (fun _ => 0))), (x9, .inl (q 0, 32, .inl (fun _ => 0))), (x10, .inl (q 0, 32, .inl (fun _ => 0))), (x11, .inl (q 0, 32, .inl (fun _ => 0))), (x12, .inl (q 0, 32, .inl (fun _ => 0))), (x13, .inl (q 0, 32, .inl (fun _ => 0))), (x14, .inl (q 0, 300, .inl (fun _ => 0))), (x15, .inl (q 0, 300, .inl (fun _ => 0))), (x16, .inl (q 0, 300, .inl (fun _ => 0))), (x17, .inl (q 0, 300, .inl (fun _ => 0))), (x18, .inl (q 0, 300, .inl (fun _ => 0))), (x19, .inl (q 0, 300, .inl (fun _ => 0))), (x20, .inl (q 0, 48, .inl (fun _ => 0))), (x21, .inl (q 0, 8, .inl (fun _ => 0)))]) (ca' := 21) (sl' := 2152) (pc := 173) X 0 rfl (by decide) (by decide) (by decide) rfl rfl (by decide) (by decide) (fun _ => rfl) d_M_init_173 (fun x21 => ?_)
  refine n_putF (ws' := [(x, .inr (0, [.int 0, .ref x1, .int 0, .ref x2, .ref x3, .ref x4, .ref x5, .ref x6, .ref x7, .ref x8, .ref x9, .ref x10, .ref x11, .ref x12, .ref x13, .int 0, .int 0, .ref x14, .ref x15, .ref x16, .ref x17, .ref x18, .int 0, .ref x19, .ref x20, .ref x21, .null, .null])), (x1, .inl (q 1, 8, .inl (fun _ => 0))), (x2, .inl (q 0, 8, .inl (fun _ => 0))), (x3, .inl (q 0, 32, .inl (fun _ => 0))), (x4, .inl (q 0, 32, .inl (fun _ => 0))), (x5, .inl (q 0, 32, .inl (fun _ => 0))), (x6, .inl (q 0, 8, .inl (fun _ => 0))), (x7, .inl (q 0, 8, .inl (fun _ => 0))), (x8, .inl (q 0, 8, .inl (fun _ => 0))), (x9, .inl (q 0, 32, .inl (fun _ => 0))), (x10, .inl (q 0, 32, .inl (fun _ => 0))), (x11, .inl (q 0, 32, .inl (fun _ => 0))), (x12, .inl (q 0, 32, .inl (fun _ => 0))), (x13, .inl (q 0, 32, .inl (fun _ => 0))), (x14, .inl (q 0, 300, .inl (fun _ => 0))), (x15, .inl (q 0, 300, .inl (fun _ => 0))), (x16, .inl (q 0, 300, .inl (fun _ => 0))), (x17, .inl (q 0, 300, .inl (fun _ => 0))), (x18, .inl (q 0, 300, .inl (fun _ => 0))), (x19, .inl (q 0, 300, .inl (fun _ => 0))), (x20, .inl (q 0, 48, .inl (fun _ => 0))), (x21, .inl (q 0, 8, .inl (fun _ => 0)))]) (pc := 175) X 0 rfl rfl hin_M t_M t_M_ok n_M 25 (by decide) lk198 rfl rfl rfl (t_M_ok 25 (by decide)) rfl rfl (Nat.le_of_ble_eq_true rfl) rfl d_M_init_175 ?_
  refine n_aload_n (pc := 178) X 0 d_M_init_178 rfl rfl ?_
  refine n_iconst (v := (4 : Int32)) (pc := 179) X d_M_init_179 (by decide) ?_
  refine n_newi (ws' := fun x22 => [(x, .inr (0, [.int 0, .ref x1, .int 0, .ref x2, .ref x3, .ref x4, .ref x5, .ref x6, .ref x7, .ref x8, .ref x9, .ref x10, .ref x11, .ref x12, .ref x13, .int 0, .int 0, .ref x14, .ref x15, .ref x16, .ref x17, .ref x18, .int 0, .ref x19, .ref x20, .ref x21, .null, .null])), (x1, .inl (q 1, 8, .inl (fun _ => 0))), (x2, .inl (q 0, 8, .inl (fun _ => 0))), (x3, .inl (q 0, 32, .inl (fun _ => 0))), (x4, .inl (q 0, 32, .inl (fun _ => 0))), (x5, .inl (q 0, 32, .inl (fun _ => 0))), (x6, .inl (q 0, 8, .inl (fun _ => 0))), (x7, .inl (q 0, 8, .inl (fun _ => 0))), (x8, .inl (q 0, 8, .inl (fun _ => 0))), (x9, .inl (q 0, 32, .inl (fun _ => 0))), (x10, .inl (q 0, 32, .inl (fun _ => 0))), (x11, .inl (q 0, 32, .inl (fun _ => 0))), (x12, .inl (q 0, 32, .inl (fun _ => 0))), (x13, .inl (q 0, 32, .inl (fun _ => 0))), (x14, .inl (q 0, 300, .inl (fun _ => 0))), (x15, .inl (q 0, 300, .inl (fun _ => 0))), (x16, .inl (q 0, 300, .inl (fun _ => 0))), (x17, .inl (q 0, 300, .inl (fun _ => 0))), (x18, .inl (q 0, 300, .inl (fun _ => 0))), (x19, .inl (q 0, 300, .inl (fun _ => 0))), (x20, .inl (q 0, 48, .inl (fun _ => 0))), (x21, .inl (q 0, 8, .inl (fun _ => 0))), (x22, .inl (q 0, 4, .inl (fun _ => 0)))]) (ca' := 22) (sl' := 2156) (pc := 180) X 0 rfl (by decide) (by decide) (by decide) rfl rfl (by decide) (by decide) (fun _ => rfl) d_M_init_180 (fun x22 => ?_)
  refine n_putF (ws' := [(x, .inr (0, [.int 0, .ref x1, .int 0, .ref x2, .ref x3, .ref x4, .ref x5, .ref x6, .ref x7, .ref x8, .ref x9, .ref x10, .ref x11, .ref x12, .ref x13, .int 0, .int 0, .ref x14, .ref x15, .ref x16, .ref x17, .ref x18, .int 0, .ref x19, .ref x20, .ref x21, .ref x22, .null])), (x1, .inl (q 1, 8, .inl (fun _ => 0))), (x2, .inl (q 0, 8, .inl (fun _ => 0))), (x3, .inl (q 0, 32, .inl (fun _ => 0))), (x4, .inl (q 0, 32, .inl (fun _ => 0))), (x5, .inl (q 0, 32, .inl (fun _ => 0))), (x6, .inl (q 0, 8, .inl (fun _ => 0))), (x7, .inl (q 0, 8, .inl (fun _ => 0))), (x8, .inl (q 0, 8, .inl (fun _ => 0))), (x9, .inl (q 0, 32, .inl (fun _ => 0))), (x10, .inl (q 0, 32, .inl (fun _ => 0))), (x11, .inl (q 0, 32, .inl (fun _ => 0))), (x12, .inl (q 0, 32, .inl (fun _ => 0))), (x13, .inl (q 0, 32, .inl (fun _ => 0))), (x14, .inl (q 0, 300, .inl (fun _ => 0))), (x15, .inl (q 0, 300, .inl (fun _ => 0))), (x16, .inl (q 0, 300, .inl (fun _ => 0))), (x17, .inl (q 0, 300, .inl (fun _ => 0))), (x18, .inl (q 0, 300, .inl (fun _ => 0))), (x19, .inl (q 0, 300, .inl (fun _ => 0))), (x20, .inl (q 0, 48, .inl (fun _ => 0))), (x21, .inl (q 0, 8, .inl (fun _ => 0))), (x22, .inl (q 0, 4, .inl (fun _ => 0)))]) (pc := 182) X 0 rfl rfl hin_M t_M t_M_ok n_M 26 (by decide) lk212 rfl rfl rfl (t_M_ok 26 (by decide)) rfl rfl (Nat.le_of_ble_eq_true rfl) rfl d_M_init_182 ?_
  refine n_aload_n (pc := 185) X 0 d_M_init_185 rfl rfl ?_
  refine n_iconst (v := (4 : Int32)) (pc := 186) X d_M_init_186 (by decide) ?_
  refine n_newi (ws' := fun x23 => [(x, .inr (0, [.int 0, .ref x1, .int 0, .ref x2, .ref x3, .ref x4, .ref x5, .ref x6, .ref x7, .ref x8, .ref x9, .ref x10, .ref x11, .ref x12, .ref x13, .int 0, .int 0, .ref x14, .ref x15, .ref x16, .ref x17, .ref x18, .int 0, .ref x19, .ref x20, .ref x21, .ref x22, .null])), (x1, .inl (q 1, 8, .inl (fun _ => 0))), (x2, .inl (q 0, 8, .inl (fun _ => 0))), (x3, .inl (q 0, 32, .inl (fun _ => 0))), (x4, .inl (q 0, 32, .inl (fun _ => 0))), (x5, .inl (q 0, 32, .inl (fun _ => 0))), (x6, .inl (q 0, 8, .inl (fun _ => 0))), (x7, .inl (q 0, 8, .inl (fun _ => 0))), (x8, .inl (q 0, 8, .inl (fun _ => 0))), (x9, .inl (q 0, 32, .inl (fun _ => 0))), (x10, .inl (q 0, 32, .inl (fun _ => 0))), (x11, .inl (q 0, 32, .inl (fun _ => 0))), (x12, .inl (q 0, 32, .inl (fun _ => 0))), (x13, .inl (q 0, 32, .inl (fun _ => 0))), (x14, .inl (q 0, 300, .inl (fun _ => 0))), (x15, .inl (q 0, 300, .inl (fun _ => 0))), (x16, .inl (q 0, 300, .inl (fun _ => 0))), (x17, .inl (q 0, 300, .inl (fun _ => 0))), (x18, .inl (q 0, 300, .inl (fun _ => 0))), (x19, .inl (q 0, 300, .inl (fun _ => 0))), (x20, .inl (q 0, 48, .inl (fun _ => 0))), (x21, .inl (q 0, 8, .inl (fun _ => 0))), (x22, .inl (q 0, 4, .inl (fun _ => 0))), (x23, .inl (q 0, 4, .inl (fun _ => 0)))]) (ca' := 23) (sl' := 2160) (pc := 187) X 0 rfl (by decide) (by decide) (by decide) rfl rfl (by decide) (by decide) (fun _ => rfl) d_M_init_187 (fun x23 => ?_)
  refine n_putF (ws' := [(x, .inr (0, [.int 0, .ref x1, .int 0, .ref x2, .ref x3, .ref x4, .ref x5, .ref x6, .ref x7, .ref x8, .ref x9, .ref x10, .ref x11, .ref x12, .ref x13, .int 0, .int 0, .ref x14, .ref x15, .ref x16, .ref x17, .ref x18, .int 0, .ref x19, .ref x20, .ref x21, .ref x22, .ref x23])), (x1, .inl (q 1, 8, .inl (fun _ => 0))), (x2, .inl (q 0, 8, .inl (fun _ => 0))), (x3, .inl (q 0, 32, .inl (fun _ => 0))), (x4, .inl (q 0, 32, .inl (fun _ => 0))), (x5, .inl (q 0, 32, .inl (fun _ => 0))), (x6, .inl (q 0, 8, .inl (fun _ => 0))), (x7, .inl (q 0, 8, .inl (fun _ => 0))), (x8, .inl (q 0, 8, .inl (fun _ => 0))), (x9, .inl (q 0, 32, .inl (fun _ => 0))), (x10, .inl (q 0, 32, .inl (fun _ => 0))), (x11, .inl (q 0, 32, .inl (fun _ => 0))), (x12, .inl (q 0, 32, .inl (fun _ => 0))), (x13, .inl (q 0, 32, .inl (fun _ => 0))), (x14, .inl (q 0, 300, .inl (fun _ => 0))), (x15, .inl (q 0, 300, .inl (fun _ => 0))), (x16, .inl (q 0, 300, .inl (fun _ => 0))), (x17, .inl (q 0, 300, .inl (fun _ => 0))), (x18, .inl (q 0, 300, .inl (fun _ => 0))), (x19, .inl (q 0, 300, .inl (fun _ => 0))), (x20, .inl (q 0, 48, .inl (fun _ => 0))), (x21, .inl (q 0, 8, .inl (fun _ => 0))), (x22, .inl (q 0, 4, .inl (fun _ => 0))), (x23, .inl (q 0, 4, .inl (fun _ => 0)))]) (pc := 189) X 0 rfl rfl hin_M t_M t_M_ok n_M 27 (by decide) lk211 rfl rfl rfl (t_M_ok 27 (by decide)) rfl rfl (Nat.le_of_ble_eq_true rfl) rfl d_M_init_189 ?_
  exact n_vret (pc := 192) X (fun j => [x1, x2, x3, x4, x5, x6, x7, x8, x9, x10, x11, x12, x13, x14, x15, x16, x17, x18, x19, x20, x21, x22, x23].getD j 0) trivial rfl (by decide) (by decide) d_M_init_192
def w_Ch_init (q : Nat → ClassId) (x : Nat) (w : Nat → Nat) : va_W := [(x, .inr (1, [.int 0, .ref (w 0), .int 0])), ((w 0), .inl (q 0, 6, .inl (fun _ => 0)))]
set_option maxHeartbeats 4000000 in
set_option maxRecDepth 100000 in
theorem c_Ch_init {l : Launch} {D : va_G} {q : Nat → ClassId} {x : Nat} (sz : Nat) : Met l y_Ch_init [.code y_Ch_init b_Ch_init 1 none] { frames := 1, cells := 1, slots := 6, locals := 12 } (va_Pc [.ref x] (PreN D clV (tyV q) [(x, .inr (1, [.int 0, .null, .int 0]))] sz)) (va_Qv (fun _ : Nat → Nat => True) (AtN D clV (x, .inr (1, [.int 0, .null, .int 0])) sz (w_Ch_init q x)) (va_A [(x, .inr (1, [.int 0, .null, .int 0]))] sz)) 1 6 (va_A [(x, .inr (1, [.int 0, .null, .int 0]))] sz) := by
  refine n_of (by decide +kernel) rfl (by decide) ?_
  intro p e R s m below meth c hsz X
  refine n_aload_n (pc := 0) X 0 d_Ch_init_0 rfl rfl ?_
  refine n_objInit (pc := 1) X lk365 lk363 lk364 (by decide) (by decide) d_Ch_init_1 ?_
  refine n_aload_n (pc := 4) X 0 d_Ch_init_4 rfl rfl ?_
  refine n_iconst (v := (0 : Int32)) (pc := 5) X d_Ch_init_5 (by decide) ?_
  refine n_put (ws' := [(x, .inr (1, [.int 0, .null, .int 0]))]) (pc := 6) X 0 rfl rfl hin_Ch t_Ch t_Ch_ok n_Ch 0 (by decide) lk366 rfl rfl (t_Ch_ok 0 (by decide)) rfl (by decide) (Nat.le_of_ble_eq_true rfl) rfl d_Ch_init_6 ?_
  refine n_aload_n (pc := 9) X 0 d_Ch_init_9 rfl rfl ?_
  refine n_bipush (v := (6 : Int32)) (pc := 10) X d_Ch_init_10 (by decide) ?_
  refine n_newi (ws' := fun x1 => [(x, .inr (1, [.int 0, .null, .int 0])), (x1, .inl (q 0, 6, .inl (fun _ => 0)))]) (ca' := 1) (sl' := 6) (pc := 12) X 0 rfl (by decide) (by decide) (by decide) rfl rfl (by decide) (by decide) (fun _ => rfl) d_Ch_init_12 (fun x1 => ?_)
  refine n_putF (ws' := [(x, .inr (1, [.int 0, .ref x1, .int 0])), (x1, .inl (q 0, 6, .inl (fun _ => 0)))]) (pc := 14) X 0 rfl rfl hin_Ch t_Ch t_Ch_ok n_Ch 1 (by decide) lk62 rfl rfl rfl (t_Ch_ok 1 (by decide)) rfl rfl (Nat.le_of_ble_eq_true rfl) rfl d_Ch_init_14 ?_
  refine n_aload_n (pc := 17) X 0 d_Ch_init_17 rfl rfl ?_
  refine n_iconst (v := (0 : Int32)) (pc := 18) X d_Ch_init_18 (by decide) ?_
  refine n_put (ws' := [(x, .inr (1, [.int 0, .ref x1, .int 0])), (x1, .inl (q 0, 6, .inl (fun _ => 0)))]) (pc := 19) X 0 rfl rfl hin_Ch t_Ch t_Ch_ok n_Ch 2 (by decide) lk63 rfl rfl (t_Ch_ok 2 (by decide)) rfl rfl (Nat.le_of_ble_eq_true rfl) rfl d_Ch_init_19 ?_
  exact n_vret (pc := 22) X (fun j => [x1].getD j 0) trivial rfl (by decide) (by decide) d_Ch_init_22
def w_Mt_init (q : Nat → ClassId) (x : Nat) (w : Nat → Nat) : va_W := [(x, .inr (3, [.ref (w 0), .ref (w 1)])), ((w 0), .inl (q 0, 4, .inl (fun _ => 0))), ((w 1), .inl (q 0, 4, .inl (fun _ => 0)))]
set_option maxHeartbeats 4000000 in
set_option maxRecDepth 100000 in
theorem c_Mt_init {l : Launch} {D : va_G} {q : Nat → ClassId} {x : Nat} (sz : Nat) : Met l y_Mt_init [.code y_Mt_init b_Mt_init 1 none] { frames := 1, cells := 2, slots := 8, locals := 12 } (va_Pc [.ref x] (PreN D clV (tyV q) [(x, .inr (3, [.null, .null]))] sz)) (va_Qv (fun _ : Nat → Nat => True) (AtN D clV (x, .inr (3, [.null, .null])) sz (w_Mt_init q x)) (va_A [(x, .inr (3, [.null, .null]))] sz)) 2 8 (va_A [(x, .inr (3, [.null, .null]))] sz) := by
  refine n_of (by decide +kernel) rfl (by decide) ?_
  intro p e R s m below meth c hsz X
  refine n_aload_n (pc := 0) X 0 d_Mt_init_0 rfl rfl ?_
  refine n_objInit (pc := 1) X lk367 lk363 lk364 (by decide) (by decide) d_Mt_init_1 ?_
  refine n_aload_n (pc := 4) X 0 d_Mt_init_4 rfl rfl ?_
  refine n_iconst (v := (4 : Int32)) (pc := 5) X d_Mt_init_5 (by decide) ?_
  refine n_newi (ws' := fun x1 => [(x, .inr (3, [.null, .null])), (x1, .inl (q 0, 4, .inl (fun _ => 0)))]) (ca' := 1) (sl' := 4) (pc := 6) X 0 rfl (by decide) (by decide) (by decide) rfl rfl (by decide) (by decide) (fun _ => rfl) d_Mt_init_6 (fun x1 => ?_)
  refine n_putF (ws' := [(x, .inr (3, [.ref x1, .null])), (x1, .inl (q 0, 4, .inl (fun _ => 0)))]) (pc := 8) X 0 rfl rfl hin_Mt t_Mt t_Mt_ok n_Mt 0 (by decide) lk108 rfl rfl rfl (t_Mt_ok 0 (by decide)) rfl rfl (Nat.le_of_ble_eq_true rfl) rfl d_Mt_init_8 ?_
  refine n_aload_n (pc := 11) X 0 d_Mt_init_11 rfl rfl ?_
  refine n_iconst (v := (4 : Int32)) (pc := 12) X d_Mt_init_12 (by decide) ?_
  refine n_newi (ws' := fun x2 => [(x, .inr (3, [.ref x1, .null])), (x1, .inl (q 0, 4, .inl (fun _ => 0))), (x2, .inl (q 0, 4, .inl (fun _ => 0)))]) (ca' := 2) (sl' := 8) (pc := 13) X 0 rfl (by decide) (by decide) (by decide) rfl rfl (by decide) (by decide) (fun _ => rfl) d_Mt_init_13 (fun x2 => ?_)
  refine n_putF (ws' := [(x, .inr (3, [.ref x1, .ref x2])), (x1, .inl (q 0, 4, .inl (fun _ => 0))), (x2, .inl (q 0, 4, .inl (fun _ => 0)))]) (pc := 15) X 0 rfl rfl hin_Mt t_Mt t_Mt_ok n_Mt 1 (by decide) lk368 rfl rfl rfl (t_Mt_ok 1 (by decide)) rfl rfl (Nat.le_of_ble_eq_true rfl) rfl d_Mt_init_15 ?_
  exact n_vret (pc := 18) X (fun j => [x1, x2].getD j 0) trivial rfl (by decide) (by decide) d_Mt_init_18
def w_Ms_init (q : Nat → ClassId) (x : Nat) (w : Nat → Nat) : va_W := [(x, .inr (2, [.int 0, .ref (w 0), .ref (w 1), .ref (w 2), .ref (w 3), .ref (w 4)])), ((w 0), .inl (q 0, 300, .inl (fun _ => 0))), ((w 1), .inl (q 0, 300, .inl (fun _ => 0))), ((w 2), .inl (q 0, 300, .inl (fun _ => 0))), ((w 3), .inl (q 0, 300, .inl (fun _ => 0))), ((w 4), .inl (q 0, 300, .inl (fun _ => 0)))]
set_option maxHeartbeats 4000000 in
set_option maxRecDepth 100000 in
theorem c_Ms_init {l : Launch} {D : va_G} {q : Nat → ClassId} {x : Nat} (sz : Nat) : Met l y_Ms_init [.code y_Ms_init b_Ms_init 1 none] { frames := 1, cells := 5, slots := 1500, locals := 12 } (va_Pc [.ref x] (PreN D clV (tyV q) [(x, .inr (2, [.int 0, .null, .null, .null, .null, .null]))] sz)) (va_Qv (fun _ : Nat → Nat => True) (AtN D clV (x, .inr (2, [.int 0, .null, .null, .null, .null, .null])) sz (w_Ms_init q x)) (va_A [(x, .inr (2, [.int 0, .null, .null, .null, .null, .null]))] sz)) 5 1500 (va_A [(x, .inr (2, [.int 0, .null, .null, .null, .null, .null]))] sz) := by
  refine n_of (by decide +kernel) rfl (by decide) ?_
  intro p e R s m below meth c hsz X
  refine n_aload_n (pc := 0) X 0 d_Ms_init_0 rfl rfl ?_
  refine n_objInit (pc := 1) X lk369 lk363 lk364 (by decide) (by decide) d_Ms_init_1 ?_
  refine n_aload_n (pc := 4) X 0 d_Ms_init_4 rfl rfl ?_
  refine n_iconst (v := (0 : Int32)) (pc := 5) X d_Ms_init_5 (by decide) ?_
  refine n_put (ws' := [(x, .inr (2, [.int 0, .null, .null, .null, .null, .null]))]) (pc := 6) X 0 rfl rfl hin_Ms t_Ms t_Ms_ok n_Ms 0 (by decide) lk57 rfl rfl (t_Ms_ok 0 (by decide)) rfl rfl (Nat.le_of_ble_eq_true rfl) rfl d_Ms_init_6 ?_
  refine n_aload_n (pc := 9) X 0 d_Ms_init_9 rfl rfl ?_
  refine n_sipush (v := (300 : Int32)) (pc := 10) X d_Ms_init_10 (by decide) ?_
  refine n_newi (ws' := fun x1 => [(x, .inr (2, [.int 0, .null, .null, .null, .null, .null])), (x1, .inl (q 0, 300, .inl (fun _ => 0)))]) (ca' := 1) (sl' := 300) (pc := 13) X 0 rfl (by decide) (by decide) (by decide) rfl rfl (by decide) (by decide) (fun _ => rfl) d_Ms_init_13 (fun x1 => ?_)
  refine n_putF (ws' := [(x, .inr (2, [.int 0, .ref x1, .null, .null, .null, .null])), (x1, .inl (q 0, 300, .inl (fun _ => 0)))]) (pc := 15) X 0 rfl rfl hin_Ms t_Ms t_Ms_ok n_Ms 1 (by decide) lk58 rfl rfl rfl (t_Ms_ok 1 (by decide)) rfl rfl (Nat.le_of_ble_eq_true rfl) rfl d_Ms_init_15 ?_
  refine n_aload_n (pc := 18) X 0 d_Ms_init_18 rfl rfl ?_
  refine n_sipush (v := (300 : Int32)) (pc := 19) X d_Ms_init_19 (by decide) ?_
  refine n_newi (ws' := fun x2 => [(x, .inr (2, [.int 0, .ref x1, .null, .null, .null, .null])), (x1, .inl (q 0, 300, .inl (fun _ => 0))), (x2, .inl (q 0, 300, .inl (fun _ => 0)))]) (ca' := 2) (sl' := 600) (pc := 22) X 0 rfl (by decide) (by decide) (by decide) rfl rfl (by decide) (by decide) (fun _ => rfl) d_Ms_init_22 (fun x2 => ?_)
  refine n_putF (ws' := [(x, .inr (2, [.int 0, .ref x1, .ref x2, .null, .null, .null])), (x1, .inl (q 0, 300, .inl (fun _ => 0))), (x2, .inl (q 0, 300, .inl (fun _ => 0)))]) (pc := 24) X 0 rfl rfl hin_Ms t_Ms t_Ms_ok n_Ms 2 (by decide) lk59 rfl rfl rfl (t_Ms_ok 2 (by decide)) rfl rfl (Nat.le_of_ble_eq_true rfl) rfl d_Ms_init_24 ?_
  refine n_aload_n (pc := 27) X 0 d_Ms_init_27 rfl rfl ?_
  refine n_sipush (v := (300 : Int32)) (pc := 28) X d_Ms_init_28 (by decide) ?_
  refine n_newi (ws' := fun x3 => [(x, .inr (2, [.int 0, .ref x1, .ref x2, .null, .null, .null])), (x1, .inl (q 0, 300, .inl (fun _ => 0))), (x2, .inl (q 0, 300, .inl (fun _ => 0))), (x3, .inl (q 0, 300, .inl (fun _ => 0)))]) (ca' := 3) (sl' := 900) (pc := 31) X 0 rfl (by decide) (by decide) (by decide) rfl rfl (by decide) (by decide) (fun _ => rfl) d_Ms_init_31 (fun x3 => ?_)
  refine n_putF (ws' := [(x, .inr (2, [.int 0, .ref x1, .ref x2, .ref x3, .null, .null])), (x1, .inl (q 0, 300, .inl (fun _ => 0))), (x2, .inl (q 0, 300, .inl (fun _ => 0))), (x3, .inl (q 0, 300, .inl (fun _ => 0)))]) (pc := 33) X 0 rfl rfl hin_Ms t_Ms t_Ms_ok n_Ms 3 (by decide) lk60 rfl rfl rfl (t_Ms_ok 3 (by decide)) rfl rfl (Nat.le_of_ble_eq_true rfl) rfl d_Ms_init_33 ?_
  refine n_aload_n (pc := 36) X 0 d_Ms_init_36 rfl rfl ?_
  refine n_sipush (v := (300 : Int32)) (pc := 37) X d_Ms_init_37 (by decide) ?_
  refine n_newi (ws' := fun x4 => [(x, .inr (2, [.int 0, .ref x1, .ref x2, .ref x3, .null, .null])), (x1, .inl (q 0, 300, .inl (fun _ => 0))), (x2, .inl (q 0, 300, .inl (fun _ => 0))), (x3, .inl (q 0, 300, .inl (fun _ => 0))), (x4, .inl (q 0, 300, .inl (fun _ => 0)))]) (ca' := 4) (sl' := 1200) (pc := 40) X 0 rfl (by decide) (by decide) (by decide) rfl rfl (by decide) (by decide) (fun _ => rfl) d_Ms_init_40 (fun x4 => ?_)
  refine n_putF (ws' := [(x, .inr (2, [.int 0, .ref x1, .ref x2, .ref x3, .ref x4, .null])), (x1, .inl (q 0, 300, .inl (fun _ => 0))), (x2, .inl (q 0, 300, .inl (fun _ => 0))), (x3, .inl (q 0, 300, .inl (fun _ => 0))), (x4, .inl (q 0, 300, .inl (fun _ => 0)))]) (pc := 42) X 0 rfl rfl hin_Ms t_Ms t_Ms_ok n_Ms 4 (by decide) lk61 rfl rfl rfl (t_Ms_ok 4 (by decide)) rfl rfl (Nat.le_of_ble_eq_true rfl) rfl d_Ms_init_42 ?_
  refine n_aload_n (pc := 45) X 0 d_Ms_init_45 rfl rfl ?_
  refine n_sipush (v := (300 : Int32)) (pc := 46) X d_Ms_init_46 (by decide) ?_
  refine n_newi (ws' := fun x5 => [(x, .inr (2, [.int 0, .ref x1, .ref x2, .ref x3, .ref x4, .null])), (x1, .inl (q 0, 300, .inl (fun _ => 0))), (x2, .inl (q 0, 300, .inl (fun _ => 0))), (x3, .inl (q 0, 300, .inl (fun _ => 0))), (x4, .inl (q 0, 300, .inl (fun _ => 0))), (x5, .inl (q 0, 300, .inl (fun _ => 0)))]) (ca' := 5) (sl' := 1500) (pc := 49) X 0 rfl (by decide) (by decide) (by decide) rfl rfl (by decide) (by decide) (fun _ => rfl) d_Ms_init_49 (fun x5 => ?_)
  refine n_putF (ws' := [(x, .inr (2, [.int 0, .ref x1, .ref x2, .ref x3, .ref x4, .ref x5])), (x1, .inl (q 0, 300, .inl (fun _ => 0))), (x2, .inl (q 0, 300, .inl (fun _ => 0))), (x3, .inl (q 0, 300, .inl (fun _ => 0))), (x4, .inl (q 0, 300, .inl (fun _ => 0))), (x5, .inl (q 0, 300, .inl (fun _ => 0)))]) (pc := 51) X 0 rfl rfl hin_Ms t_Ms t_Ms_ok n_Ms 5 (by decide) lk370 rfl rfl rfl (t_Ms_ok 5 (by decide)) rfl rfl (Nat.le_of_ble_eq_true rfl) rfl d_Ms_init_51 ?_
  exact n_vret (pc := 54) X (fun j => [x1, x2, x3, x4, x5].getD j 0) trivial rfl (by decide) (by decide) d_Ms_init_54
def w_Re_init (q : Nat → ClassId) (x : Nat) (w : Nat → Nat) : va_W := [(x, .inr (4, [.int 0, .ref (w 0), .ref (w 1), .ref (w 2), .int 0, .int 0, .int 0, .ref (w 3), .ref (w 4), .ref (w 5), .ref (w 6), .ref (w 7)])), ((w 0), .inl (q 0, 4, .inl (fun _ => 0))), ((w 1), .inl (q 0, 4, .inl (fun _ => 0))), ((w 2), .inl (q 0, 4, .inl (fun _ => 0))), ((w 3), .inl (q 1, 4, .inl (fun _ => 0))), ((w 4), .inl (q 0, 4, .inl (fun _ => 0))), ((w 5), .inl (q 0, 4, .inl (fun _ => 0))), ((w 6), .inl (q 0, 4, .inl (fun _ => 0))), ((w 7), .inl (q 0, 4, .inl (fun _ => 0)))]
set_option maxHeartbeats 4000000 in
set_option maxRecDepth 100000 in
theorem c_Re_init {l : Launch} {D : va_G} {q : Nat → ClassId} {x : Nat} (sz : Nat) : Met l y_Re_init [.code y_Re_init b_Re_init 1 none] { frames := 1, cells := 8, slots := 32, locals := 12 } (va_Pc [.ref x] (PreN D clV (tyV q) [(x, .inr (4, [.int 0, .null, .null, .null, .int 0, .int 0, .int 0, .null, .null, .null, .null, .null]))] sz)) (va_Qv (fun _ : Nat → Nat => True) (AtN D clV (x, .inr (4, [.int 0, .null, .null, .null, .int 0, .int 0, .int 0, .null, .null, .null, .null, .null])) sz (w_Re_init q x)) (va_A [(x, .inr (4, [.int 0, .null, .null, .null, .int 0, .int 0, .int 0, .null, .null, .null, .null, .null]))] sz)) 8 32 (va_A [(x, .inr (4, [.int 0, .null, .null, .null, .int 0, .int 0, .int 0, .null, .null, .null, .null, .null]))] sz) := by
  refine n_of (by decide +kernel) rfl (by decide) ?_
  intro p e R s m below meth c hsz X
  refine n_aload_n (pc := 0) X 0 d_Re_init_0 rfl rfl ?_
  refine n_objInit (pc := 1) X lk371 lk363 lk364 (by decide) (by decide) d_Re_init_1 ?_
  refine n_aload_n (pc := 4) X 0 d_Re_init_4 rfl rfl ?_
  refine n_iconst (v := (0 : Int32)) (pc := 5) X d_Re_init_5 (by decide) ?_
  refine n_put (ws' := [(x, .inr (4, [.int 0, .null, .null, .null, .int 0, .int 0, .int 0, .null, .null, .null, .null, .null]))]) (pc := 6) X 0 rfl rfl hin_Re t_Re t_Re_ok n_Re 0 (by decide) lk6 rfl rfl (t_Re_ok 0 (by decide)) rfl rfl (Nat.le_of_ble_eq_true rfl) rfl d_Re_init_6 ?_
  refine n_aload_n (pc := 9) X 0 d_Re_init_9 rfl rfl ?_
  refine n_iconst (v := (4 : Int32)) (pc := 10) X d_Re_init_10 (by decide) ?_
  refine n_newi (ws' := fun x1 => [(x, .inr (4, [.int 0, .null, .null, .null, .int 0, .int 0, .int 0, .null, .null, .null, .null, .null])), (x1, .inl (q 0, 4, .inl (fun _ => 0)))]) (ca' := 1) (sl' := 4) (pc := 11) X 0 rfl (by decide) (by decide) (by decide) rfl rfl (by decide) (by decide) (fun _ => rfl) d_Re_init_11 (fun x1 => ?_)
  refine n_putF (ws' := [(x, .inr (4, [.int 0, .ref x1, .null, .null, .int 0, .int 0, .int 0, .null, .null, .null, .null, .null])), (x1, .inl (q 0, 4, .inl (fun _ => 0)))]) (pc := 13) X 0 rfl rfl hin_Re t_Re t_Re_ok n_Re 1 (by decide) lk7 rfl rfl rfl (t_Re_ok 1 (by decide)) rfl rfl (Nat.le_of_ble_eq_true rfl) rfl d_Re_init_13 ?_
  refine n_aload_n (pc := 16) X 0 d_Re_init_16 rfl rfl ?_
  refine n_iconst (v := (4 : Int32)) (pc := 17) X d_Re_init_17 (by decide) ?_
  refine n_newi (ws' := fun x2 => [(x, .inr (4, [.int 0, .ref x1, .null, .null, .int 0, .int 0, .int 0, .null, .null, .null, .null, .null])), (x1, .inl (q 0, 4, .inl (fun _ => 0))), (x2, .inl (q 0, 4, .inl (fun _ => 0)))]) (ca' := 2) (sl' := 8) (pc := 18) X 0 rfl (by decide) (by decide) (by decide) rfl rfl (by decide) (by decide) (fun _ => rfl) d_Re_init_18 (fun x2 => ?_)
  refine n_putF (ws' := [(x, .inr (4, [.int 0, .ref x1, .ref x2, .null, .int 0, .int 0, .int 0, .null, .null, .null, .null, .null])), (x1, .inl (q 0, 4, .inl (fun _ => 0))), (x2, .inl (q 0, 4, .inl (fun _ => 0)))]) (pc := 20) X 0 rfl rfl hin_Re t_Re t_Re_ok n_Re 2 (by decide) lk8 rfl rfl rfl (t_Re_ok 2 (by decide)) rfl rfl (Nat.le_of_ble_eq_true rfl) rfl d_Re_init_20 ?_
  refine n_aload_n (pc := 23) X 0 d_Re_init_23 rfl rfl ?_
  refine n_iconst (v := (4 : Int32)) (pc := 24) X d_Re_init_24 (by decide) ?_
  refine n_newi (ws' := fun x3 => [(x, .inr (4, [.int 0, .ref x1, .ref x2, .null, .int 0, .int 0, .int 0, .null, .null, .null, .null, .null])), (x1, .inl (q 0, 4, .inl (fun _ => 0))), (x2, .inl (q 0, 4, .inl (fun _ => 0))), (x3, .inl (q 0, 4, .inl (fun _ => 0)))]) (ca' := 3) (sl' := 12) (pc := 25) X 0 rfl (by decide) (by decide) (by decide) rfl rfl (by decide) (by decide) (fun _ => rfl) d_Re_init_25 (fun x3 => ?_)
  refine n_putF (ws' := [(x, .inr (4, [.int 0, .ref x1, .ref x2, .ref x3, .int 0, .int 0, .int 0, .null, .null, .null, .null, .null])), (x1, .inl (q 0, 4, .inl (fun _ => 0))), (x2, .inl (q 0, 4, .inl (fun _ => 0))), (x3, .inl (q 0, 4, .inl (fun _ => 0)))]) (pc := 27) X 0 rfl rfl hin_Re t_Re t_Re_ok n_Re 3 (by decide) lk9 rfl rfl rfl (t_Re_ok 3 (by decide)) rfl rfl (Nat.le_of_ble_eq_true rfl) rfl d_Re_init_27 ?_
  refine n_aload_n (pc := 30) X 0 d_Re_init_30 rfl rfl ?_
  refine n_iconst (v := (0 : Int32)) (pc := 31) X d_Re_init_31 (by decide) ?_
  refine n_put (ws' := [(x, .inr (4, [.int 0, .ref x1, .ref x2, .ref x3, .int 0, .int 0, .int 0, .null, .null, .null, .null, .null])), (x1, .inl (q 0, 4, .inl (fun _ => 0))), (x2, .inl (q 0, 4, .inl (fun _ => 0))), (x3, .inl (q 0, 4, .inl (fun _ => 0)))]) (pc := 32) X 0 rfl rfl hin_Re t_Re t_Re_ok n_Re 4 (by decide) lk98 rfl rfl (t_Re_ok 4 (by decide)) rfl rfl (Nat.le_of_ble_eq_true rfl) rfl d_Re_init_32 ?_
  refine n_aload_n (pc := 35) X 0 d_Re_init_35 rfl rfl ?_
  refine n_iconst (v := (0 : Int32)) (pc := 36) X d_Re_init_36 (by decide) ?_
  refine n_put (ws' := [(x, .inr (4, [.int 0, .ref x1, .ref x2, .ref x3, .int 0, .int 0, .int 0, .null, .null, .null, .null, .null])), (x1, .inl (q 0, 4, .inl (fun _ => 0))), (x2, .inl (q 0, 4, .inl (fun _ => 0))), (x3, .inl (q 0, 4, .inl (fun _ => 0)))]) (pc := 37) X 0 rfl rfl hin_Re t_Re t_Re_ok n_Re 5 (by decide) lk107 rfl rfl (t_Re_ok 5 (by decide)) rfl rfl (Nat.le_of_ble_eq_true rfl) rfl d_Re_init_37 ?_
  refine n_aload_n (pc := 40) X 0 d_Re_init_40 rfl rfl ?_
  refine n_iconst (v := (0 : Int32)) (pc := 41) X d_Re_init_41 (by decide) ?_
  refine n_put (ws' := [(x, .inr (4, [.int 0, .ref x1, .ref x2, .ref x3, .int 0, .int 0, .int 0, .null, .null, .null, .null, .null])), (x1, .inl (q 0, 4, .inl (fun _ => 0))), (x2, .inl (q 0, 4, .inl (fun _ => 0))), (x3, .inl (q 0, 4, .inl (fun _ => 0)))]) (pc := 42) X 0 rfl rfl hin_Re t_Re t_Re_ok n_Re 6 (by decide) lk31 rfl rfl (t_Re_ok 6 (by decide)) rfl rfl (Nat.le_of_ble_eq_true rfl) rfl d_Re_init_42 ?_
  refine n_aload_n (pc := 45) X 0 d_Re_init_45 rfl rfl ?_
  refine n_iconst (v := (4 : Int32)) (pc := 46) X d_Re_init_46 (by decide) ?_
  refine n_newz (ws' := fun x4 => [(x, .inr (4, [.int 0, .ref x1, .ref x2, .ref x3, .int 0, .int 0, .int 0, .null, .null, .null, .null, .null])), (x1, .inl (q 0, 4, .inl (fun _ => 0))), (x2, .inl (q 0, 4, .inl (fun _ => 0))), (x3, .inl (q 0, 4, .inl (fun _ => 0))), (x4, .inl (q 1, 4, .inl (fun _ => 0)))]) (ca' := 4) (sl' := 16) (pc := 47) X 1 rfl (by decide) (by decide) (by decide) rfl rfl (by decide) (by decide) (fun _ => rfl) d_Re_init_47 (fun x4 => ?_)
  refine n_putF (ws' := [(x, .inr (4, [.int 0, .ref x1, .ref x2, .ref x3, .int 0, .int 0, .int 0, .ref x4, .null, .null, .null, .null])), (x1, .inl (q 0, 4, .inl (fun _ => 0))), (x2, .inl (q 0, 4, .inl (fun _ => 0))), (x3, .inl (q 0, 4, .inl (fun _ => 0))), (x4, .inl (q 1, 4, .inl (fun _ => 0)))]) (pc := 49) X 0 rfl rfl hin_Re t_Re t_Re_ok n_Re 7 (by decide) lk32 rfl rfl rfl (t_Re_ok 7 (by decide)) rfl rfl (Nat.le_of_ble_eq_true rfl) rfl d_Re_init_49 ?_
  refine n_aload_n (pc := 52) X 0 d_Re_init_52 rfl rfl ?_
  refine n_iconst (v := (4 : Int32)) (pc := 53) X d_Re_init_53 (by decide) ?_
  refine n_newi (ws' := fun x5 => [(x, .inr (4, [.int 0, .ref x1, .ref x2, .ref x3, .int 0, .int 0, .int 0, .ref x4, .null, .null, .null, .null])), (x1, .inl (q 0, 4, .inl (fun _ => 0))), (x2, .inl (q 0, 4, .inl (fun _ => 0))), (x3, .inl (q 0, 4, .inl (fun _ => 0))), (x4, .inl (q 1, 4, .inl (fun _ => 0))), (x5, .inl (q 0, 4, .inl (fun _ => 0)))]) (ca' := 5) (sl' := 20) (pc := 54) X 0 rfl (by decide) (by decide) (by decide) rfl rfl (by decide) (by decide) (fun _ => rfl) d_Re_init_54 (fun x5 => ?_)
  refine n_putF (ws' := [(x, .inr (4, [.int 0, .ref x1, .ref x2, .ref x3, .int 0, .int 0, .int 0, .ref x4, .ref x5, .null, .null, .null])), (x1, .inl (q 0, 4, .inl (fun _ => 0))), (x2, .inl (q 0, 4, .inl (fun _ => 0))), (x3, .inl (q 0, 4, .inl (fun _ => 0))), (x4, .inl (q 1, 4, .inl (fun _ => 0))), (x5, .inl (q 0, 4, .inl (fun _ => 0)))]) (pc := 56) X 0 rfl rfl hin_Re t_Re t_Re_ok n_Re 8 (by decide) lk33 rfl rfl rfl (t_Re_ok 8 (by decide)) rfl rfl (Nat.le_of_ble_eq_true rfl) rfl d_Re_init_56 ?_
  refine n_aload_n (pc := 59) X 0 d_Re_init_59 rfl rfl ?_
  refine n_iconst (v := (4 : Int32)) (pc := 60) X d_Re_init_60 (by decide) ?_
  refine n_newi (ws' := fun x6 => [(x, .inr (4, [.int 0, .ref x1, .ref x2, .ref x3, .int 0, .int 0, .int 0, .ref x4, .ref x5, .null, .null, .null])), (x1, .inl (q 0, 4, .inl (fun _ => 0))), (x2, .inl (q 0, 4, .inl (fun _ => 0))), (x3, .inl (q 0, 4, .inl (fun _ => 0))), (x4, .inl (q 1, 4, .inl (fun _ => 0))), (x5, .inl (q 0, 4, .inl (fun _ => 0))), (x6, .inl (q 0, 4, .inl (fun _ => 0)))]) (ca' := 6) (sl' := 24) (pc := 61) X 0 rfl (by decide) (by decide) (by decide) rfl rfl (by decide) (by decide) (fun _ => rfl) d_Re_init_61 (fun x6 => ?_)
  refine n_putF (ws' := [(x, .inr (4, [.int 0, .ref x1, .ref x2, .ref x3, .int 0, .int 0, .int 0, .ref x4, .ref x5, .ref x6, .null, .null])), (x1, .inl (q 0, 4, .inl (fun _ => 0))), (x2, .inl (q 0, 4, .inl (fun _ => 0))), (x3, .inl (q 0, 4, .inl (fun _ => 0))), (x4, .inl (q 1, 4, .inl (fun _ => 0))), (x5, .inl (q 0, 4, .inl (fun _ => 0))), (x6, .inl (q 0, 4, .inl (fun _ => 0)))]) (pc := 63) X 0 rfl rfl hin_Re t_Re t_Re_ok n_Re 9 (by decide) lk34 rfl rfl rfl (t_Re_ok 9 (by decide)) rfl rfl (Nat.le_of_ble_eq_true rfl) rfl d_Re_init_63 ?_
  refine n_aload_n (pc := 66) X 0 d_Re_init_66 rfl rfl ?_
  refine n_iconst (v := (4 : Int32)) (pc := 67) X d_Re_init_67 (by decide) ?_
  refine n_newi (ws' := fun x7 => [(x, .inr (4, [.int 0, .ref x1, .ref x2, .ref x3, .int 0, .int 0, .int 0, .ref x4, .ref x5, .ref x6, .null, .null])), (x1, .inl (q 0, 4, .inl (fun _ => 0))), (x2, .inl (q 0, 4, .inl (fun _ => 0))), (x3, .inl (q 0, 4, .inl (fun _ => 0))), (x4, .inl (q 1, 4, .inl (fun _ => 0))), (x5, .inl (q 0, 4, .inl (fun _ => 0))), (x6, .inl (q 0, 4, .inl (fun _ => 0))), (x7, .inl (q 0, 4, .inl (fun _ => 0)))]) (ca' := 7) (sl' := 28) (pc := 68) X 0 rfl (by decide) (by decide) (by decide) rfl rfl (by decide) (by decide) (fun _ => rfl) d_Re_init_68 (fun x7 => ?_)
  refine n_putF (ws' := [(x, .inr (4, [.int 0, .ref x1, .ref x2, .ref x3, .int 0, .int 0, .int 0, .ref x4, .ref x5, .ref x6, .ref x7, .null])), (x1, .inl (q 0, 4, .inl (fun _ => 0))), (x2, .inl (q 0, 4, .inl (fun _ => 0))), (x3, .inl (q 0, 4, .inl (fun _ => 0))), (x4, .inl (q 1, 4, .inl (fun _ => 0))), (x5, .inl (q 0, 4, .inl (fun _ => 0))), (x6, .inl (q 0, 4, .inl (fun _ => 0))), (x7, .inl (q 0, 4, .inl (fun _ => 0)))]) (pc := 70) X 0 rfl rfl hin_Re t_Re t_Re_ok n_Re 10 (by decide) lk35 rfl rfl rfl (t_Re_ok 10 (by decide)) rfl rfl (Nat.le_of_ble_eq_true rfl) rfl d_Re_init_70 ?_
  refine n_aload_n (pc := 73) X 0 d_Re_init_73 rfl rfl ?_
  refine n_iconst (v := (4 : Int32)) (pc := 74) X d_Re_init_74 (by decide) ?_
  refine n_newi (ws' := fun x8 => [(x, .inr (4, [.int 0, .ref x1, .ref x2, .ref x3, .int 0, .int 0, .int 0, .ref x4, .ref x5, .ref x6, .ref x7, .null])), (x1, .inl (q 0, 4, .inl (fun _ => 0))), (x2, .inl (q 0, 4, .inl (fun _ => 0))), (x3, .inl (q 0, 4, .inl (fun _ => 0))), (x4, .inl (q 1, 4, .inl (fun _ => 0))), (x5, .inl (q 0, 4, .inl (fun _ => 0))), (x6, .inl (q 0, 4, .inl (fun _ => 0))), (x7, .inl (q 0, 4, .inl (fun _ => 0))), (x8, .inl (q 0, 4, .inl (fun _ => 0)))]) (ca' := 8) (sl' := 32) (pc := 75) X 0 rfl (by decide) (by decide) (by decide) rfl rfl (by decide) (by decide) (fun _ => rfl) d_Re_init_75 (fun x8 => ?_)
  refine n_putF (ws' := [(x, .inr (4, [.int 0, .ref x1, .ref x2, .ref x3, .int 0, .int 0, .int 0, .ref x4, .ref x5, .ref x6, .ref x7, .ref x8])), (x1, .inl (q 0, 4, .inl (fun _ => 0))), (x2, .inl (q 0, 4, .inl (fun _ => 0))), (x3, .inl (q 0, 4, .inl (fun _ => 0))), (x4, .inl (q 1, 4, .inl (fun _ => 0))), (x5, .inl (q 0, 4, .inl (fun _ => 0))), (x6, .inl (q 0, 4, .inl (fun _ => 0))), (x7, .inl (q 0, 4, .inl (fun _ => 0))), (x8, .inl (q 0, 4, .inl (fun _ => 0)))]) (pc := 77) X 0 rfl rfl hin_Re t_Re t_Re_ok n_Re 11 (by decide) lk36 rfl rfl rfl (t_Re_ok 11 (by decide)) rfl rfl (Nat.le_of_ble_eq_true rfl) rfl d_Re_init_77 ?_
  exact n_vret (pc := 80) X (fun j => [x1, x2, x3, x4, x5, x6, x7, x8].getD j 0) trivial rfl (by decide) (by decide) d_Re_init_80
