section
variable {p : Program} {l : Launch} {e : Env} {R : Room} {s : State} {m : MethodId} {args : Array Value} {below : List Frame} {meth : Method} {c : Code} {D : va_G} {a : Nat → Nat} {q : Nat → ClassId}
set_option maxHeartbeats 4000000 in
set_option maxRecDepth 100000 in
theorem kb_M_taken_0 {Q : Int32 → RS → Prop} (X : Cx p l R s m args meth c b_M_taken 3 R_M (some .int) D clM (tyM q) a 24 5 127 tbW) {h : RS} {x1 : Int32} (hw : bp_M_taken_0 Q h x1) : Z p l e R s m args below meth c D clM 24 a (ceM a q) 3 (MQ below (va_Qi Q (AtC D clM 24 a (ceM a q)) (inW a 24)) args s 0 0 (inW a 24)) h 0 [(0, .ref (a 0)), (1, .int x1)] [] := by
  unfold bp_M_taken_0 at hw
  refine z_aload_n (pc := 0) X 0 d_M_taken_0 rfl rfl ?_
  refine z_cVi (i := 0) (pc := 1) X [] (c_M_next X.2.2.2.2.2.2.2.2.1 hw) (by decide) (by decide) lk236 cd_M_next lk163 lk237 lk238 (by decide) (cM_M _) rfl nm_M_next rfl rfl (Nat.le_of_ble_eq_true rfl) d_M_taken_1 (fun r1 h2 hw => ?_)
  refine z_istore_n (pc := 4) X d_M_taken_4 rfl (by decide) rfl ?_
  refine z_iload_n (pc := 5) X 0 d_M_taken_5 rfl rfl ?_
  refine z_if_lt (tgt := 18) (pc := 6) X d_M_taken_6 (by decide) (fun hc => ?_) (fun hc => ?_)
  · have hw := hw.1 hc
    refine z_iconst (v := (-1 : Int32)) (pc := 18) X d_M_taken_18 (by decide) ?_
    exact z_iret (pc := 19) X d_M_taken_19 hw
  · have hw := hw.2 hc
    refine z_aload_n (pc := 9) X 1 d_M_taken_9 rfl rfl ?_
    refine z_iload_n (pc := 10) X 0 d_M_taken_10 rfl rfl ?_
    refine z_iload_n (pc := 11) X 2 d_M_taken_11 rfl rfl ?_
    refine z_cVi (i := 0) (pc := 12) X [.int _, .int _] (c_M_hasPart X.2.2.2.2.2.2.2.2.1 hw) (by decide) (by decide) lk174 cd_M_hasPart lk163 lk175 lk176 (by decide) (cM_M _) rfl nm_M_hasPart rfl rfl (Nat.le_of_ble_eq_true rfl) d_M_taken_12 (fun r3 h4 hw => ?_)
    refine z_if_ne (tgt := 20) (pc := 15) X d_M_taken_15 (by decide) (fun hc => ?_) (fun hc => ?_)
    · have hw := hw.1 hc
      refine z_aload_n (pc := 20) X 1 d_M_taken_20 rfl rfl ?_
      refine z_iload_n (pc := 21) X 0 d_M_taken_21 rfl rfl ?_
      refine z_cVi (i := 0) (pc := 22) X [.int _] (c_M_find X.2.2.2.2.2.2.2.2.1 hw) (by decide) (by decide) lk228 cd_M_find lk163 lk229 lk230 (by decide) (cM_M _) rfl nm_M_find rfl rfl (Nat.le_of_ble_eq_true rfl) d_M_taken_22 (fun r5 h6 hw => ?_)
      refine z_pop (pc := 25) X d_M_taken_25 rfl ?_
      refine z_aload_n (pc := 26) X 1 d_M_taken_26 rfl rfl ?_
      refine z_iload_n (pc := 27) X 0 d_M_taken_27 rfl rfl ?_
      refine z_iload_n (pc := 28) X 2 d_M_taken_28 rfl rfl ?_
      refine z_cVi (i := 0) (pc := 29) X [.int _, .int _] (c_M_chosen X.2.2.2.2.2.2.2.2.1 hw) (by decide) (by decide) lk213 cd_M_chosen lk163 lk214 lk215 (by decide) (cM_M _) rfl nm_M_chosen rfl rfl (Nat.le_of_ble_eq_true rfl) d_M_taken_29 (fun r7 h8 hw => ?_)
      exact z_iret (pc := 32) X d_M_taken_32 hw
    · have hw := hw.2 hc
      refine z_iconst (v := (-1 : Int32)) (pc := 18) X d_M_taken_18 (by decide) ?_
      exact z_iret (pc := 19) X d_M_taken_19 hw
theorem c_M_taken {l : Launch} {D : va_G} {a : Nat → Nat} {q : Nat → ClassId} (hI : injW a 24) {h : RS} {x1 : Int32} {Q : Int32 → RS → Prop} (hw : wp_M_taken h x1 Q) : Met l y_M_taken [.code y_M_taken b_M_taken 3 (some .int)] { frames := 5, cells := 0, slots := 0, locals := 127 } (va_Pc [.ref (a 0), .int x1] (PreC tbW D clM (tyM q) 24 a (ceM a q) h)) (va_Qi Q (AtC D clM 24 a (ceM a q)) (inW a 24)) 0 0 (inW a 24) :=
  m_of (by decide +kernel) hI tb_ok (Nat.le_of_ble_eq_true rfl) (fun p e R s m below meth c X => kb_M_taken_0 X hw)
set_option maxHeartbeats 4000000 in
set_option maxRecDepth 100000 in
theorem kb_M_result_21 {Q : Int32 → RS → Prop} (X : Cx p l R s m args meth c b_M_result 7 R_M (some .int) D clM (tyM q) a 24 0 0 tbW) {K21 : RS → Int32 → Int32 → Int32 → Int32 → Int32 → Int32 → Prop} (hK21 : ∀ (h : RS) (x1 : Int32) (x2 : Int32) (x3 : Int32) (x4 : Int32) (x5 : Int32) (x6 : Int32), K21 h x1 x2 x3 x4 x5 x6 → Z p l e R s m args below meth c D clM 24 a (ceM a q) 7 (MQ below (va_Qi Q (AtC D clM 24 a (ceM a q)) (inW a 24)) args s 0 0 (inW a 24)) h 21 [(0, .ref (a 0)), (1, .int x1), (2, .int x2), (3, .int x3), (4, .int x4), (5, .int x5), (6, .int x6)] []) {h : RS} {x1 : Int32} {x2 : Int32} {x3 : Int32} {x4 : Int32} {x5 : Int32} {x6 : Int32} (hw : bp_M_result_21 K21 Q h x1 x2 x3 x4 x5 x6) : Z p l e R s m args below meth c D clM 24 a (ceM a q) 7 (MQ below (va_Qi Q (AtC D clM 24 a (ceM a q)) (inW a 24)) args s 0 0 (inW a 24)) h 21 [(0, .ref (a 0)), (1, .int x1), (2, .int x2), (3, .int x3), (4, .int x4), (5, .int x5), (6, .int x6)] [] := by
  unfold bp_M_result_21 at hw
  refine z_iload (pc := 21) X 6 d_M_result_21 rfl ?_
  refine z_aload_n (pc := 23) X 0 d_M_result_23 rfl rfl ?_
  refine z_get (i := 0) (pc := 24) X (by decide) (cM_M _) rfl hin_M 3 (by decide) lk161 rfl rfl d_M_result_24 ?_
  refine z_iload_n (pc := 27) X 1 d_M_result_27 rfl rfl ?_
  obtain ⟨k1, hk1, ek1, hw⟩ := hw
  refine z_iald (i := 2) (pc := 28) X 0 (by decide) (cM__parts _) rfl (by decide) hk1 ek1 d_M_result_28 ?_
  refine z_icmp_ge (tgt := 76) (pc := 29) X d_M_result_29 (by decide) (fun hc => ?_) (fun hc => ?_)
  · have hw := hw.1 hc
    refine z_aload_n (pc := 76) X 0 d_M_result_76 rfl rfl ?_
    refine z_get (i := 0) (pc := 77) X (by decide) (cM_M _) rfl hin_M 12 (by decide) lk180 rfl rfl d_M_result_77 ?_
    refine z_iload_n (pc := 80) X 2 d_M_result_80 rfl rfl ?_
    obtain ⟨k2, hk2, ek2, hw⟩ := hw
    refine z_iald (i := 11) (pc := 81) X 0 (by decide) (cM__kind _) rfl (by decide) hk2 ek2 d_M_result_81 ?_
    refine z_iconst (v := (1 : Int32)) (pc := 82) X d_M_result_82 (by decide) ?_
    refine z_icmp_ne (tgt := 100) (pc := 83) X d_M_result_83 (by decide) (fun hc => ?_) (fun hc => ?_)
    · have hw := hw.1 hc
      refine z_aload_n (pc := 100) X 0 d_M_result_100 rfl rfl ?_
      refine z_get (i := 0) (pc := 101) X (by decide) (cM_M _) rfl hin_M 12 (by decide) lk180 rfl rfl d_M_result_101 ?_
      refine z_iload_n (pc := 104) X 2 d_M_result_104 rfl rfl ?_
      obtain ⟨k3, hk3, ek3, hw⟩ := hw
      refine z_iald (i := 11) (pc := 105) X 0 (by decide) (cM__kind _) rfl (by decide) hk3 ek3 d_M_result_105 ?_
      refine z_iconst (v := (2 : Int32)) (pc := 106) X d_M_result_106 (by decide) ?_
      refine z_icmp_ne (tgt := 124) (pc := 107) X d_M_result_107 (by decide) (fun hc => ?_) (fun hc => ?_)
      · have hw := hw.1 hc
        refine z_aload_n (pc := 124) X 0 d_M_result_124 rfl rfl ?_
        refine z_get (i := 0) (pc := 125) X (by decide) (cM_M _) rfl hin_M 12 (by decide) lk180 rfl rfl d_M_result_125 ?_
        refine z_iload_n (pc := 128) X 2 d_M_result_128 rfl rfl ?_
        obtain ⟨k4, hk4, ek4, hw⟩ := hw
        refine z_iald (i := 11) (pc := 129) X 0 (by decide) (cM__kind _) rfl (by decide) hk4 ek4 d_M_result_129 ?_
        refine z_if_ne (tgt := 137) (pc := 130) X d_M_result_130 (by decide) (fun hc => ?_) (fun hc => ?_)
        · have hw := hw.1 hc
          refine z_aload_n (pc := 137) X 0 d_M_result_137 rfl rfl ?_
          refine z_get (i := 0) (pc := 138) X (by decide) (cM_M _) rfl hin_M 12 (by decide) lk180 rfl rfl d_M_result_138 ?_
          refine z_iload_n (pc := 141) X 2 d_M_result_141 rfl rfl ?_
          obtain ⟨k5, hk5, ek5, hw⟩ := hw
          refine z_iald (i := 11) (pc := 142) X 0 (by decide) (cM__kind _) rfl (by decide) hk5 ek5 d_M_result_142 ?_
          refine z_iconst (v := (3 : Int32)) (pc := 143) X d_M_result_143 (by decide) ?_
          refine z_icmp_ne (tgt := 154) (pc := 144) X d_M_result_144 (by decide) (fun hc => ?_) (fun hc => ?_)
          · have hw := hw.1 hc
            refine z_iload (pc := 154) X 5 d_M_result_154 rfl ?_
            exact z_iret (pc := 156) X d_M_result_156 hw
          · have hw := hw.2 hc
            refine z_iload (pc := 147) X 4 d_M_result_147 rfl ?_
            refine z_iload_n (pc := 149) X 3 d_M_result_149 rfl rfl ?_
            refine z_iadd (pc := 150) X d_M_result_150 ?_
            refine z_goto (tgt := 156) (pc := 151) X d_M_result_151 (by decide) ?_
            exact z_iret (pc := 156) X d_M_result_156 hw
        · have hw := hw.2 hc
          refine z_iload_n (pc := 133) X 3 d_M_result_133 rfl rfl ?_
          refine z_goto (tgt := 156) (pc := 134) X d_M_result_134 (by decide) ?_
          exact z_iret (pc := 156) X d_M_result_156 hw
      · have hw := hw.2 hc
        refine z_aload_n (pc := 110) X 0 d_M_result_110 rfl rfl ?_
        refine z_get (i := 0) (pc := 111) X (by decide) (cM_M _) rfl hin_M 27 (by decide) lk211 rfl rfl d_M_result_111 ?_
        refine z_aload_n (pc := 114) X 0 d_M_result_114 rfl rfl ?_
        refine z_get (i := 0) (pc := 115) X (by decide) (cM_M _) rfl hin_M 13 (by decide) lk181 rfl rfl d_M_result_115 ?_
        refine z_iload_n (pc := 118) X 2 d_M_result_118 rfl rfl ?_
        obtain ⟨k6, hk6, ek6, hw⟩ := hw
        refine z_iald (i := 12) (pc := 119) X 0 (by decide) (cM__which _) rfl (by decide) hk6 ek6 d_M_result_119 ?_
        obtain ⟨k7, hk7, ek7, hw⟩ := hw
        refine z_iald (i := 23) (pc := 120) X 0 (by decide) (cM__tried _) rfl (by decide) hk7 ek7 d_M_result_120 ?_
        refine z_iload_n (pc := 121) X 3 d_M_result_121 rfl rfl ?_
        refine z_imul (pc := 122) X d_M_result_122 ?_
        exact z_iret (pc := 123) X d_M_result_123 hw
    · have hw := hw.2 hc
      refine z_aload_n (pc := 86) X 0 d_M_result_86 rfl rfl ?_
      refine z_get (i := 0) (pc := 87) X (by decide) (cM_M _) rfl hin_M 27 (by decide) lk211 rfl rfl d_M_result_87 ?_
      refine z_aload_n (pc := 90) X 0 d_M_result_90 rfl rfl ?_
      refine z_get (i := 0) (pc := 91) X (by decide) (cM_M _) rfl hin_M 13 (by decide) lk181 rfl rfl d_M_result_91 ?_
      refine z_iload_n (pc := 94) X 2 d_M_result_94 rfl rfl ?_
      obtain ⟨k8, hk8, ek8, hw⟩ := hw
      refine z_iald (i := 12) (pc := 95) X 0 (by decide) (cM__which _) rfl (by decide) hk8 ek8 d_M_result_95 ?_
      obtain ⟨k9, hk9, ek9, hw⟩ := hw
      refine z_iald (i := 23) (pc := 96) X 0 (by decide) (cM__tried _) rfl (by decide) hk9 ek9 d_M_result_96 ?_
      refine z_iload_n (pc := 97) X 3 d_M_result_97 rfl rfl ?_
      refine z_iadd (pc := 98) X d_M_result_98 ?_
      exact z_iret (pc := 99) X d_M_result_99 hw
  · have hw := hw.2 hc
    refine z_iload (pc := 32) X 4 d_M_result_32 rfl ?_
    refine z_aload_n (pc := 34) X 0 d_M_result_34 rfl rfl ?_
    refine z_get (i := 0) (pc := 35) X (by decide) (cM_M _) rfl hin_M 27 (by decide) lk211 rfl rfl d_M_result_35 ?_
    refine z_iload (pc := 38) X 6 d_M_result_38 rfl ?_
    obtain ⟨k10, hk10, ek10, hw⟩ := hw
    refine z_iald (i := 23) (pc := 40) X 0 (by decide) (cM__tried _) rfl (by decide) hk10 ek10 d_M_result_40 ?_
    refine z_iadd (pc := 41) X d_M_result_41 ?_
    refine z_istore (pc := 42) X d_M_result_42 (by decide) rfl ?_
    refine z_aload_n (pc := 44) X 1 d_M_result_44 rfl rfl ?_
    refine z_get (i := 0) (pc := 45) X (by decide) (cM_M _) rfl hin_M 27 (by decide) lk211 rfl rfl d_M_result_45 ?_
    refine z_iload (pc := 48) X 6 d_M_result_48 rfl ?_
    obtain ⟨k11, hk11, ek11, hw⟩ := hw
    refine z_iald (i := 23) (pc := 50) X 0 (by decide) (cM__tried _) rfl (by decide) hk11 ek11 d_M_result_50 ?_
    refine z_iload (pc := 51) X 5 d_M_result_51 rfl ?_
    refine z_icmp_le (tgt := 66) (pc := 53) X d_M_result_53 (by decide) (fun hc => ?_) (fun hc => ?_)
    · have hw := hw.1 hc
      refine z_iload (pc := 66) X 5 d_M_result_66 rfl ?_
      refine z_istore (pc := 68) X d_M_result_68 (by decide) rfl ?_
      refine z_iinc (v := (x6 + 1)) (pc := 70) X 6 d_M_result_70 rfl rfl (by decide) rfl ?_
      refine z_goto (tgt := 21) (pc := 73) X d_M_result_73 (by decide) ?_
      exact z_to [3, 4, 5, 6, 2, 1, 0] rfl (hK21 _ _ _ _ _ _ _ hw)
    · have hw := hw.2 hc
      refine z_aload_n (pc := 56) X 1 d_M_result_56 rfl rfl ?_
      refine z_get (i := 0) (pc := 57) X (by decide) (cM_M _) rfl hin_M 27 (by decide) lk211 rfl rfl d_M_result_57 ?_
      refine z_iload (pc := 60) X 6 d_M_result_60 rfl ?_
      obtain ⟨k12, hk12, ek12, hw⟩ := hw
      refine z_iald (i := 23) (pc := 62) X 0 (by decide) (cM__tried _) rfl (by decide) hk12 ek12 d_M_result_62 ?_
      refine z_goto (tgt := 68) (pc := 63) X d_M_result_63 (by decide) ?_
      refine z_istore (pc := 68) X d_M_result_68 (by decide) rfl ?_
      refine z_iinc (v := (x6 + 1)) (pc := 70) X 6 d_M_result_70 rfl rfl (by decide) rfl ?_
      refine z_goto (tgt := 21) (pc := 73) X d_M_result_73 (by decide) ?_
      exact z_to [3, 4, 5, 6, 2, 1, 0] rfl (hK21 _ _ _ _ _ _ _ hw)
theorem kl_M_result_21 {Q : Int32 → RS → Prop} (X : Cx p l R s m args meth c b_M_result 7 R_M (some .int) D clM (tyM q) a 24 0 0 tbW) : ∀ (n : Nat) (h : RS) (x1 : Int32) (x2 : Int32) (x3 : Int32) (x4 : Int32) (x5 : Int32) (x6 : Int32), wp_M_result_21 Q n h x1 x2 x3 x4 x5 x6 → Z p l e R s m args below meth c D clM 24 a (ceM a q) 7 (MQ below (va_Qi Q (AtC D clM 24 a (ceM a q)) (inW a 24)) args s 0 0 (inW a 24)) h 21 [(0, .ref (a 0)), (1, .int x1), (2, .int x2), (3, .int x3), (4, .int x4), (5, .int x5), (6, .int x6)] [] := by
  intro n
  induction n with
  | zero =>
    intro h x1 x2 x3 x4 x5 x6 hw
    exact hw.elim
  | succ n ih =>
    intro h x1 x2 x3 x4 x5 x6 hw
    exact kb_M_result_21 X ih hw
set_option maxHeartbeats 4000000 in
set_option maxRecDepth 100000 in
theorem kb_M_result_0 {Q : Int32 → RS → Prop} (X : Cx p l R s m args meth c b_M_result 7 R_M (some .int) D clM (tyM q) a 24 0 0 tbW) {h : RS} {x1 : Int32} {x2 : Int32} (hw : bp_M_result_0 Q h x1 x2) : Z p l e R s m args below meth c D clM 24 a (ceM a q) 7 (MQ below (va_Qi Q (AtC D clM 24 a (ceM a q)) (inW a 24)) args s 0 0 (inW a 24)) h 0 [(0, .ref (a 0)), (1, .int x1), (2, .int x2)] [] := by
  unfold bp_M_result_0 at hw
  refine z_aload_n (pc := 0) X 0 d_M_result_0 rfl rfl ?_
  refine z_get (i := 0) (pc := 1) X (by decide) (cM_M _) rfl hin_M 14 (by decide) lk185 rfl rfl d_M_result_1 ?_
  refine z_iload_n (pc := 4) X 2 d_M_result_4 rfl rfl ?_
  obtain ⟨k13, hk13, ek13, hw⟩ := hw
  refine z_iald (i := 13) (pc := 5) X 0 (by decide) (cM__number _) rfl (by decide) hk13 ek13 d_M_result_5 ?_
  refine z_istore_n (pc := 6) X d_M_result_6 rfl (by decide) rfl ?_
  refine z_iconst (v := (0 : Int32)) (pc := 7) X d_M_result_7 (by decide) ?_
  refine z_istore (pc := 8) X d_M_result_8 (by decide) rfl ?_
  refine z_aload_n (pc := 10) X 2 d_M_result_10 rfl rfl ?_
  refine z_get (i := 0) (pc := 11) X (by decide) (cM_M _) rfl hin_M 27 (by decide) lk211 rfl rfl d_M_result_11 ?_
  refine z_iconst (v := (0 : Int32)) (pc := 14) X d_M_result_14 (by decide) ?_
  obtain ⟨k14, hk14, ek14, hw⟩ := hw
  refine z_iald (i := 23) (pc := 15) X 0 (by decide) (cM__tried _) rfl (by decide) hk14 ek14 d_M_result_15 ?_
  refine z_istore (pc := 16) X d_M_result_16 (by decide) rfl ?_
  refine z_iconst (v := (0 : Int32)) (pc := 18) X d_M_result_18 (by decide) ?_
  refine z_istore (pc := 19) X d_M_result_19 (by decide) rfl ?_
  obtain ⟨n15, hw⟩ := hw
  exact z_to [4, 5, 6, 3, 2, 1, 0] rfl (kl_M_result_21 X n15 _ _ _ _ _ _ _ hw)
theorem c_M_result {l : Launch} {D : va_G} {a : Nat → Nat} {q : Nat → ClassId} (hI : injW a 24) {h : RS} {x1 : Int32} {x2 : Int32} {Q : Int32 → RS → Prop} (hw : wp_M_result h x1 x2 Q) : Met l y_M_result [.code y_M_result b_M_result 7 (some .int)] { frames := 0, cells := 0, slots := 0, locals := 0 } (va_Pc [.ref (a 0), .int x1, .int x2] (PreC tbW D clM (tyM q) 24 a (ceM a q) h)) (va_Qi Q (AtC D clM 24 a (ceM a q)) (inW a 24)) 0 0 (inW a 24) :=
  m_of (by decide +kernel) hI tb_ok (Nat.le_of_ble_eq_true rfl) (fun p e R s m below meth c X => kb_M_result_0 X hw)
set_option maxHeartbeats 4000000 in
set_option maxRecDepth 100000 in
theorem kb_M_fire_50 {Q : RS → Prop} (X : Cx p l R s m args meth c b_M_fire 5 R_M none D clM (tyM q) a 24 3 81 tbW) {K50 : RS → Int32 → Int32 → Prop} (hK50 : ∀ (h : RS) (x1 : Int32) (x2 : Int32), K50 h x1 x2 → Z p l e R s m args below meth c D clM 24 a (ceM a q) 5 (MQ below (va_Qv Q (AtC D clM 24 a (ceM a q)) (inW a 24)) args s 0 0 (inW a 24)) h 50 [(0, .ref (a 0)), (1, .int x1), (2, .int x2)] []) {h : RS} {x1 : Int32} {x2 : Int32} (hw : bp_M_fire_50 K50 Q h x1 x2) : Z p l e R s m args below meth c D clM 24 a (ceM a q) 5 (MQ below (va_Qv Q (AtC D clM 24 a (ceM a q)) (inW a 24)) args s 0 0 (inW a 24)) h 50 [(0, .ref (a 0)), (1, .int x1), (2, .int x2)] [] := by
  unfold bp_M_fire_50 at hw
  refine z_iload_n (pc := 50) X 2 d_M_fire_50 rfl rfl ?_
  refine z_aload_n (pc := 51) X 0 d_M_fire_51 rfl rfl ?_
  refine z_get (i := 0) (pc := 52) X (by decide) (cM_M _) rfl hin_M 9 (by decide) lk177 rfl rfl d_M_fire_52 ?_
  refine z_iload_n (pc := 55) X 1 d_M_fire_55 rfl rfl ?_
  obtain ⟨k1, hk1, ek1, hw⟩ := hw
  refine z_iald (i := 8) (pc := 56) X 0 (by decide) (cM__actions _) rfl (by decide) hk1 ek1 d_M_fire_56 ?_
  refine z_icmp_ge (tgt := 123) (pc := 57) X d_M_fire_57 (by decide) (fun hc => ?_) (fun hc => ?_)
  · have hw := hw.1 hc
    refine z_aload_n (pc := 123) X 0 d_M_fire_123 rfl rfl ?_
    refine z_get (i := 0) (pc := 124) X (by decide) (cM_M _) rfl hin_M 23 (by decide) lk235 rfl rfl d_M_fire_124 ?_
    refine z_aload_n (pc := 127) X 0 d_M_fire_127 rfl rfl ?_
    refine z_get (i := 0) (pc := 128) X (by decide) (cM_M _) rfl hin_M 22 (by decide) lk234 rfl rfl d_M_fire_128 ?_
    refine z_iload_n (pc := 131) X 1 d_M_fire_131 rfl rfl ?_
    obtain ⟨k2, hk2, ek2, hw⟩ := hw
    refine z_iast (i := 19) (pc := 132) X 0 (by decide) (fun g => (cM__firedBy g)) rfl (by decide) hk2 ek2 d_M_fire_132 ?_
    have hw := hw _ rfl
    refine z_aload_n (pc := 133) X 0 d_M_fire_133 rfl rfl ?_
    refine z_aload_n (pc := 134) X 0 d_M_fire_134 rfl rfl ?_
    refine z_get (i := 0) (pc := 135) X (by decide) (cM_M _) rfl hin_M 22 (by decide) lk234 rfl rfl d_M_fire_135 ?_
    refine z_iconst (v := (1 : Int32)) (pc := 138) X d_M_fire_138 (by decide) ?_
    refine z_iadd (pc := 139) X d_M_fire_139 ?_
    refine z_put (i := 0) (pc := 140) X (by decide) (cM_M _) rfl hin_M t_M t_M_ok n_M 22 (by decide) lk234 rfl rfl (t_M_ok 22 (by decide)) rfl rfl (Nat.le_of_ble_eq_true rfl) (cM_M _) d_M_fire_140 ?_
    have hw := hw _ rfl
    exact z_vret (pc := 143) X d_M_fire_143 hw
  · have hw := hw.2 hc
    refine z_iconst (v := (4 : Int32)) (pc := 60) X d_M_fire_60 (by decide) ?_
    refine z_iload_n (pc := 61) X 1 d_M_fire_61 rfl rfl ?_
    refine z_imul (pc := 62) X d_M_fire_62 ?_
    refine z_iload_n (pc := 63) X 2 d_M_fire_63 rfl rfl ?_
    refine z_iadd (pc := 64) X d_M_fire_64 ?_
    refine z_istore_n (pc := 65) X d_M_fire_65 rfl (by decide) rfl ?_
    refine z_aload_n (pc := 66) X 1 d_M_fire_66 rfl rfl ?_
    refine z_iload_n (pc := 67) X 2 d_M_fire_67 rfl rfl ?_
    refine z_iload_n (pc := 68) X 0 d_M_fire_68 rfl rfl ?_
    refine z_cVi (i := 0) (pc := 69) X [.int _, .int _] (c_M_result X.2.2.2.2.2.2.2.2.1 hw) (by decide) (by decide) lk239 cd_M_result lk163 lk240 lk241 (by decide) (cM_M _) rfl nm_M_result rfl rfl (Nat.le_of_ble_eq_true rfl) d_M_fire_69 (fun r5 h6 hw => ?_)
    refine z_istore (pc := 72) X d_M_fire_72 (by decide) rfl ?_
    refine z_aload_n (pc := 74) X 2 d_M_fire_74 rfl rfl ?_
    refine z_get (i := 0) (pc := 75) X (by decide) (cM_M _) rfl hin_M 10 (by decide) lk178 rfl rfl d_M_fire_75 ?_
    refine z_iload_n (pc := 78) X 1 d_M_fire_78 rfl rfl ?_
    obtain ⟨k7, hk7, ek7, hw⟩ := hw
    refine z_iald (i := 9) (pc := 79) X 0 (by decide) (cM__target _) rfl (by decide) hk7 ek7 d_M_fire_79 ?_
    refine z_if_lt (tgt := 99) (pc := 80) X d_M_fire_80 (by decide) (fun hc => ?_) (fun hc => ?_)
    · have hw := hw.1 hc
      refine z_aload_n (pc := 99) X 2 d_M_fire_99 rfl rfl ?_
      refine z_get (i := 0) (pc := 100) X (by decide) (cM_M _) rfl hin_M 21 (by decide) lk242 rfl rfl d_M_fire_100 ?_
      refine z_aload_n (pc := 103) X 2 d_M_fire_103 rfl rfl ?_
      refine z_iload_n (pc := 104) X 3 d_M_fire_104 rfl rfl ?_
      refine z_aload_n (pc := 105) X 2 d_M_fire_105 rfl rfl ?_
      refine z_get (i := 0) (pc := 106) X (by decide) (cM_M _) rfl hin_M 11 (by decide) lk179 rfl rfl d_M_fire_106 ?_
      refine z_iload_n (pc := 109) X 1 d_M_fire_109 rfl rfl ?_
      obtain ⟨k8, hk8, ek8, hw⟩ := hw
      refine z_iald (i := 10) (pc := 110) X 0 (by decide) (cM__replied _) rfl (by decide) hk8 ek8 d_M_fire_110 ?_
      refine z_cVi (i := 0) (pc := 111) X [.int _, .int _] (c_M_chosen X.2.2.2.2.2.2.2.2.1 hw) (by decide) (by decide) lk213 cd_M_chosen lk163 lk214 lk215 (by decide) (cM_M _) rfl nm_M_chosen rfl rfl (Nat.le_of_ble_eq_true rfl) d_M_fire_111 (fun r9 h10 hw => ?_)
      refine z_iload (pc := 114) X 0 d_M_fire_114 rfl ?_
      obtain ⟨k11, hk11, ek11, hw⟩ := hw
      refine z_iast (i := 18) (pc := 116) X 0 (by decide) (fun g => (cM__answers g)) rfl (by decide) hk11 ek11 d_M_fire_116 ?_
      have hw := hw _ rfl
      refine z_iinc (v := (x2 + 1)) (pc := 117) X 4 d_M_fire_117 rfl rfl (by decide) rfl ?_
      refine z_goto (tgt := 50) (pc := 120) X d_M_fire_120 (by decide) ?_
      exact z_to [3, 4, 0] rfl (hK50 _ _ _ hw)
    · have hw := hw.2 hc
      refine z_aload_n (pc := 83) X 2 d_M_fire_83 rfl rfl ?_
      refine z_aload_n (pc := 84) X 2 d_M_fire_84 rfl rfl ?_
      refine z_get (i := 0) (pc := 85) X (by decide) (cM_M _) rfl hin_M 10 (by decide) lk178 rfl rfl d_M_fire_85 ?_
      refine z_iload_n (pc := 88) X 1 d_M_fire_88 rfl rfl ?_
      obtain ⟨k13, hk13, ek13, hw⟩ := hw
      refine z_iald (i := 9) (pc := 89) X 0 (by decide) (cM__target _) rfl (by decide) hk13 ek13 d_M_fire_89 ?_
      refine z_iload (pc := 90) X 0 d_M_fire_90 rfl ?_
      refine z_cVi (i := 0) (pc := 92) X [.int _, .int _] (c_M_make X.2.2.2.2.2.2.2.2.1 hw) (by decide) (by decide) lk202 cd_M_make lk163 lk203 lk204 (by decide) (cM_M _) rfl nm_M_make rfl rfl (Nat.le_of_ble_eq_true rfl) d_M_fire_92 (fun r14 h15 hw => ?_)
      refine z_pop (pc := 95) X d_M_fire_95 rfl ?_
      refine z_goto (tgt := 117) (pc := 96) X d_M_fire_96 (by decide) ?_
      refine z_iinc (v := (x2 + 1)) (pc := 117) X 4 d_M_fire_117 rfl rfl (by decide) rfl ?_
      refine z_goto (tgt := 50) (pc := 120) X d_M_fire_120 (by decide) ?_
      exact z_to [3, 4, 0] rfl (hK50 _ _ _ hw)
theorem kl_M_fire_50 {Q : RS → Prop} (X : Cx p l R s m args meth c b_M_fire 5 R_M none D clM (tyM q) a 24 3 81 tbW) : ∀ (n : Nat) (h : RS) (x1 : Int32) (x2 : Int32), wp_M_fire_50 Q n h x1 x2 → Z p l e R s m args below meth c D clM 24 a (ceM a q) 5 (MQ below (va_Qv Q (AtC D clM 24 a (ceM a q)) (inW a 24)) args s 0 0 (inW a 24)) h 50 [(0, .ref (a 0)), (1, .int x1), (2, .int x2)] [] := by
  intro n
  induction n with
  | zero =>
    intro h x1 x2 hw
    exact hw.elim
  | succ n ih =>
    intro h x1 x2 hw
    exact kb_M_fire_50 X ih hw
set_option maxHeartbeats 4000000 in
set_option maxRecDepth 100000 in
theorem kb_M_fire_8 {Q : RS → Prop} (X : Cx p l R s m args meth c b_M_fire 5 R_M none D clM (tyM q) a 24 3 81 tbW) {K8 : RS → Int32 → Int32 → Prop} (hK8 : ∀ (h : RS) (x1 : Int32) (x2 : Int32), K8 h x1 x2 → Z p l e R s m args below meth c D clM 24 a (ceM a q) 5 (MQ below (va_Qv Q (AtC D clM 24 a (ceM a q)) (inW a 24)) args s 0 0 (inW a 24)) h 8 [(0, .ref (a 0)), (1, .int x1), (2, .int x2)] []) {h : RS} {x1 : Int32} {x2 : Int32} (hw : bp_M_fire_8 K8 Q h x1 x2) : Z p l e R s m args below meth c D clM 24 a (ceM a q) 5 (MQ below (va_Qv Q (AtC D clM 24 a (ceM a q)) (inW a 24)) args s 0 0 (inW a 24)) h 8 [(0, .ref (a 0)), (1, .int x1), (2, .int x2)] [] := by
  unfold bp_M_fire_8 at hw
  refine z_iload_n (pc := 8) X 2 d_M_fire_8 rfl rfl ?_
  refine z_aload_n (pc := 9) X 0 d_M_fire_9 rfl rfl ?_
  refine z_get (i := 0) (pc := 10) X (by decide) (cM_M _) rfl hin_M 3 (by decide) lk161 rfl rfl d_M_fire_10 ?_
  refine z_iload_n (pc := 13) X 1 d_M_fire_13 rfl rfl ?_
  obtain ⟨k16, hk16, ek16, hw⟩ := hw
  refine z_iald (i := 2) (pc := 14) X 0 (by decide) (cM__parts _) rfl (by decide) hk16 ek16 d_M_fire_14 ?_
  refine z_icmp_ge (tgt := 48) (pc := 15) X d_M_fire_15 (by decide) (fun hc => ?_) (fun hc => ?_)
  · have hw := hw.1 hc
    refine z_iconst (v := (0 : Int32)) (pc := 48) X d_M_fire_48 (by decide) ?_
    refine z_istore_n (pc := 49) X d_M_fire_49 rfl (by decide) rfl ?_
    obtain ⟨n17, hw⟩ := hw
    exact z_to [1, 2, 0] rfl (kl_M_fire_50 X n17 _ _ _ hw)
  · have hw := hw.2 hc
    refine z_aload_n (pc := 18) X 0 d_M_fire_18 rfl rfl ?_
    refine z_iload_n (pc := 19) X 1 d_M_fire_19 rfl rfl ?_
    refine z_iload_n (pc := 20) X 2 d_M_fire_20 rfl rfl ?_
    refine z_cVi (i := 0) (pc := 21) X [.int _, .int _] (c_M_chosen X.2.2.2.2.2.2.2.2.1 hw) (by decide) (by decide) lk213 cd_M_chosen lk163 lk214 lk215 (by decide) (cM_M _) rfl nm_M_chosen rfl rfl (Nat.le_of_ble_eq_true rfl) d_M_fire_21 (fun r18 h19 hw => ?_)
    refine z_istore_n (pc := 24) X d_M_fire_24 rfl (by decide) rfl ?_
    refine z_aload_n (pc := 25) X 1 d_M_fire_25 rfl rfl ?_
    refine z_get (i := 0) (pc := 26) X (by decide) (cM_M _) rfl hin_M 19 (by decide) lk195 rfl rfl d_M_fire_26 ?_
    refine z_iload_n (pc := 29) X 0 d_M_fire_29 rfl rfl ?_
    refine z_iconst (v := (2 : Int32)) (pc := 30) X d_M_fire_30 (by decide) ?_
    obtain ⟨k20, hk20, ek20, hw⟩ := hw
    refine z_iast (i := 16) (pc := 31) X 0 (by decide) (fun g => (cM__states g)) rfl (by decide) hk20 ek20 d_M_fire_31 ?_
    have hw := hw _ rfl
    refine z_aload_n (pc := 32) X 1 d_M_fire_32 rfl rfl ?_
    refine z_get (i := 0) (pc := 33) X (by decide) (cM_M _) rfl hin_M 20 (by decide) lk196 rfl rfl d_M_fire_33 ?_
    refine z_iload_n (pc := 36) X 0 d_M_fire_36 rfl rfl ?_
    refine z_aload_n (pc := 37) X 1 d_M_fire_37 rfl rfl ?_
    refine z_get (i := 0) (pc := 38) X (by decide) (cM_M _) rfl hin_M 22 (by decide) lk234 rfl rfl d_M_fire_38 ?_
    obtain ⟨k22, hk22, ek22, hw⟩ := hw
    refine z_iast (i := 17) (pc := 41) X 0 (by decide) (fun g => (cM__consumers g)) rfl (by decide) hk22 ek22 d_M_fire_41 ?_
    have hw := hw _ rfl
    refine z_iinc (v := (x2 + 1)) (pc := 42) X 3 d_M_fire_42 rfl rfl (by decide) rfl ?_
    refine z_goto (tgt := 8) (pc := 45) X d_M_fire_45 (by decide) ?_
    exact z_to [2, 3, 0] rfl (hK8 _ _ _ hw)
theorem kl_M_fire_8 {Q : RS → Prop} (X : Cx p l R s m args meth c b_M_fire 5 R_M none D clM (tyM q) a 24 3 81 tbW) : ∀ (n : Nat) (h : RS) (x1 : Int32) (x2 : Int32), wp_M_fire_8 Q n h x1 x2 → Z p l e R s m args below meth c D clM 24 a (ceM a q) 5 (MQ below (va_Qv Q (AtC D clM 24 a (ceM a q)) (inW a 24)) args s 0 0 (inW a 24)) h 8 [(0, .ref (a 0)), (1, .int x1), (2, .int x2)] [] := by
  intro n
  induction n with
  | zero =>
    intro h x1 x2 hw
    exact hw.elim
  | succ n ih =>
    intro h x1 x2 hw
    exact kb_M_fire_8 X ih hw
set_option maxHeartbeats 4000000 in
set_option maxRecDepth 100000 in
theorem kb_M_fire_0 {Q : RS → Prop} (X : Cx p l R s m args meth c b_M_fire 5 R_M none D clM (tyM q) a 24 3 81 tbW) {h : RS} {x1 : Int32} (hw : bp_M_fire_0 Q h x1) : Z p l e R s m args below meth c D clM 24 a (ceM a q) 5 (MQ below (va_Qv Q (AtC D clM 24 a (ceM a q)) (inW a 24)) args s 0 0 (inW a 24)) h 0 [(0, .ref (a 0)), (1, .int x1)] [] := by
  unfold bp_M_fire_0 at hw
  refine z_aload_n (pc := 0) X 0 d_M_fire_0 rfl rfl ?_
  refine z_iload_n (pc := 1) X 1 d_M_fire_1 rfl rfl ?_
  refine z_cVi (i := 0) (pc := 2) X [.int _] (c_M_find X.2.2.2.2.2.2.2.2.1 hw) (by decide) (by decide) lk228 cd_M_find lk163 lk229 lk230 (by decide) (cM_M _) rfl nm_M_find rfl rfl (Nat.le_of_ble_eq_true rfl) d_M_fire_2 (fun r24 h25 hw => ?_)
  refine z_pop (pc := 5) X d_M_fire_5 rfl ?_
  refine z_iconst (v := (0 : Int32)) (pc := 6) X d_M_fire_6 (by decide) ?_
  refine z_istore_n (pc := 7) X d_M_fire_7 rfl (by decide) rfl ?_
  obtain ⟨n26, hw⟩ := hw
  exact z_to [1, 2, 0] rfl (kl_M_fire_8 X n26 _ _ _ hw)
theorem c_M_fire {l : Launch} {D : va_G} {a : Nat → Nat} {q : Nat → ClassId} (hI : injW a 24) {h : RS} {x1 : Int32} {Q : RS → Prop} (hw : wp_M_fire h x1 Q) : Met l y_M_fire [.code y_M_fire b_M_fire 5 none] { frames := 3, cells := 0, slots := 0, locals := 81 } (va_Pc [.ref (a 0), .int x1] (PreC tbW D clM (tyM q) 24 a (ceM a q) h)) (va_Qv Q (AtC D clM 24 a (ceM a q)) (inW a 24)) 0 0 (inW a 24) :=
  m_of (by decide +kernel) hI tb_ok (Nat.le_of_ble_eq_true rfl) (fun p e R s m below meth c X => kb_M_fire_0 X hw)
set_option maxHeartbeats 4000000 in
set_option maxRecDepth 100000 in
theorem kb_M_react_20 {Q : Int32 → RS → Prop} (X : Cx p l R s m args meth c b_M_react 4 R_M (some .int) D clM (tyM q) a 24 5 127 tbW) {K20 : RS → Int32 → Int32 → Prop} (hK20 : ∀ (h : RS) (x1 : Int32) (x2 : Int32), K20 h x1 x2 → Z p l e R s m args below meth c D clM 24 a (ceM a q) 4 (MQ below (va_Qi Q (AtC D clM 24 a (ceM a q)) (inW a 24)) args s 0 0 (inW a 24)) h 20 [(0, .ref (a 0)), (1, .int x1), (2, .int x2)] []) {h : RS} {x1 : Int32} {x2 : Int32} (hw : bp_M_react_20 K20 Q h x1 x2) : Z p l e R s m args below meth c D clM 24 a (ceM a q) 4 (MQ below (va_Qi Q (AtC D clM 24 a (ceM a q)) (inW a 24)) args s 0 0 (inW a 24)) h 20 [(0, .ref (a 0)), (1, .int x1), (2, .int x2)] [] := by
  unfold bp_M_react_20 at hw
  refine z_iload_n (pc := 20) X 2 d_M_react_20 rfl rfl ?_
  refine z_iload_n (pc := 21) X 1 d_M_react_21 rfl rfl ?_
  refine z_icmp_ge (tgt := 47) (pc := 22) X d_M_react_22 (by decide) (fun hc => ?_) (fun hc => ?_)
  · have hw := hw.1 hc
    refine z_iload_n (pc := 47) X 1 d_M_react_47 rfl rfl ?_
    exact z_iret (pc := 48) X d_M_react_48 hw
  · have hw := hw.2 hc
    refine z_aload_n (pc := 25) X 0 d_M_react_25 rfl rfl ?_
    refine z_cVi (i := 0) (pc := 26) X [] (c_M_next X.2.2.2.2.2.2.2.2.1 hw) (by decide) (by decide) lk236 cd_M_next lk163 lk237 lk238 (by decide) (cM_M _) rfl nm_M_next rfl rfl (Nat.le_of_ble_eq_true rfl) d_M_react_26 (fun r1 h2 hw => ?_)
    refine z_istore_n (pc := 29) X d_M_react_29 rfl (by decide) rfl ?_
    refine z_iload_n (pc := 30) X 0 d_M_react_30 rfl rfl ?_
    refine z_if_ge (tgt := 36) (pc := 31) X d_M_react_31 (by decide) (fun hc => ?_) (fun hc => ?_)
    · have hw := hw.1 hc
      refine z_aload_n (pc := 36) X 1 d_M_react_36 rfl rfl ?_
      refine z_iload_n (pc := 37) X 0 d_M_react_37 rfl rfl ?_
      refine z_cVv (i := 0) (pc := 38) X [.int _] (c_M_fire X.2.2.2.2.2.2.2.2.1 hw) (by decide) (by decide) lk243 cd_M_fire lk163 lk244 lk245 (by decide) (cM_M _) rfl nm_M_fire rfl rfl (Nat.le_of_ble_eq_true rfl) d_M_react_38 (fun h3 hw => ?_)
      refine z_iinc (v := (x2 + 1)) (pc := 41) X 3 d_M_react_41 rfl rfl (by decide) rfl ?_
      refine z_goto (tgt := 20) (pc := 44) X d_M_react_44 (by decide) ?_
      exact z_to [2, 3, 0] rfl (hK20 _ _ _ hw)
    · have hw := hw.2 hc
      refine z_iload_n (pc := 34) X 3 d_M_react_34 rfl rfl ?_
      exact z_iret (pc := 35) X d_M_react_35 hw
theorem kl_M_react_20 {Q : Int32 → RS → Prop} (X : Cx p l R s m args meth c b_M_react 4 R_M (some .int) D clM (tyM q) a 24 5 127 tbW) : ∀ (n : Nat) (h : RS) (x1 : Int32) (x2 : Int32), wp_M_react_20 Q n h x1 x2 → Z p l e R s m args below meth c D clM 24 a (ceM a q) 4 (MQ below (va_Qi Q (AtC D clM 24 a (ceM a q)) (inW a 24)) args s 0 0 (inW a 24)) h 20 [(0, .ref (a 0)), (1, .int x1), (2, .int x2)] [] := by
  intro n
  induction n with
  | zero =>
    intro h x1 x2 hw
    exact hw.elim
  | succ n ih =>
    intro h x1 x2 hw
    exact kb_M_react_20 X ih hw
set_option maxHeartbeats 4000000 in
set_option maxRecDepth 100000 in
theorem kb_M_react_0 {Q : Int32 → RS → Prop} (X : Cx p l R s m args meth c b_M_react 4 R_M (some .int) D clM (tyM q) a 24 5 127 tbW) {h : RS} {x1 : Int32} (hw : bp_M_react_0 Q h x1) : Z p l e R s m args below meth c D clM 24 a (ceM a q) 4 (MQ below (va_Qi Q (AtC D clM 24 a (ceM a q)) (inW a 24)) args s 0 0 (inW a 24)) h 0 [(0, .ref (a 0)), (1, .int x1)] [] := by
  unfold bp_M_react_0 at hw
  refine z_aload_n (pc := 0) X 0 d_M_react_0 rfl rfl ?_
  refine z_get (i := 0) (pc := 1) X (by decide) (cM_M _) rfl hin_M 15 (by decide) lk157 rfl rfl d_M_react_1 ?_
  refine z_if_eq (tgt := 16) (pc := 4) X d_M_react_4 (by decide) (fun hc => ?_) (fun hc => ?_)
  · have hw := hw.1 hc
    refine z_iconst (v := (-1 : Int32)) (pc := 16) X d_M_react_16 (by decide) ?_
    exact z_iret (pc := 17) X d_M_react_17 hw
  · have hw := hw.2 hc
    refine z_iload_n (pc := 7) X 1 d_M_react_7 rfl rfl ?_
    refine z_if_lt (tgt := 16) (pc := 8) X d_M_react_8 (by decide) (fun hc => ?_) (fun hc => ?_)
    · have hw := hw.1 hc
      refine z_iconst (v := (-1 : Int32)) (pc := 16) X d_M_react_16 (by decide) ?_
      exact z_iret (pc := 17) X d_M_react_17 hw
    · have hw := hw.2 hc
      refine z_iload_n (pc := 11) X 1 d_M_react_11 rfl rfl ?_
      refine z_iconst (v := (5 : Int32)) (pc := 12) X d_M_react_12 (by decide) ?_
      refine z_icmp_le (tgt := 18) (pc := 13) X d_M_react_13 (by decide) (fun hc => ?_) (fun hc => ?_)
      · have hw := hw.1 hc
        refine z_iconst (v := (0 : Int32)) (pc := 18) X d_M_react_18 (by decide) ?_
        refine z_istore_n (pc := 19) X d_M_react_19 rfl (by decide) rfl ?_
        obtain ⟨n4, hw⟩ := hw
        exact z_to [1, 2, 0] rfl (kl_M_react_20 X n4 _ _ _ hw)
      · have hw := hw.2 hc
        refine z_iconst (v := (-1 : Int32)) (pc := 16) X d_M_react_16 (by decide) ?_
        exact z_iret (pc := 17) X d_M_react_17 hw
theorem c_M_react {l : Launch} {D : va_G} {a : Nat → Nat} {q : Nat → ClassId} (hI : injW a 24) {h : RS} {x1 : Int32} {Q : Int32 → RS → Prop} (hw : wp_M_react h x1 Q) : Met l y_M_react [.code y_M_react b_M_react 4 (some .int)] { frames := 5, cells := 0, slots := 0, locals := 127 } (va_Pc [.ref (a 0), .int x1] (PreC tbW D clM (tyM q) 24 a (ceM a q) h)) (va_Qi Q (AtC D clM 24 a (ceM a q)) (inW a 24)) 0 0 (inW a 24) :=
  m_of (by decide +kernel) hI tb_ok (Nat.le_of_ble_eq_true rfl) (fun p e R s m below meth c X => kb_M_react_0 X hw)
set_option maxHeartbeats 4000000 in
set_option maxRecDepth 100000 in
theorem kb_M_pendingAt_0 {Q : Int32 → RS → Prop} (X : Cx p l R s m args meth c b_M_pendingAt 3 R_M (some .int) D clM (tyM q) a 24 1 22 tbW) {h : RS} {x1 : Int32} {x2 : Int32} (hw : bp_M_pendingAt_0 Q h x1 x2) : Z p l e R s m args below meth c D clM 24 a (ceM a q) 3 (MQ below (va_Qi Q (AtC D clM 24 a (ceM a q)) (inW a 24)) args s 0 0 (inW a 24)) h 0 [(0, .ref (a 0)), (1, .int x1), (2, .int x2)] [] := by
  unfold bp_M_pendingAt_0 at hw
  refine z_aload_n (pc := 0) X 0 d_M_pendingAt_0 rfl rfl ?_
  refine z_cVv (i := 0) (pc := 1) X [] (c_M_gather X.2.2.2.2.2.2.2.2.1 hw) (by decide) (by decide) lk199 cd_M_gather lk163 lk200 lk201 (by decide) (cM_M _) rfl nm_M_gather rfl rfl (Nat.le_of_ble_eq_true rfl) d_M_pendingAt_1 (fun h1 hw => ?_)
  refine z_aload_n (pc := 4) X 0 d_M_pendingAt_4 rfl rfl ?_
  refine z_iload_n (pc := 5) X 1 d_M_pendingAt_5 rfl rfl ?_
  refine z_cVi (i := 0) (pc := 6) X [.int _] (c_M_isChannel X.2.2.2.2.2.2.2.2.1 hw) (by decide) (by decide) lk166 cd_M_isChannel lk163 lk167 lk168 (by decide) (cM_M _) rfl nm_M_isChannel rfl rfl (Nat.le_of_ble_eq_true rfl) d_M_pendingAt_6 (fun r2 h3 hw => ?_)
  refine z_if_eq (tgt := 40) (pc := 9) X d_M_pendingAt_9 (by decide) (fun hc => ?_) (fun hc => ?_)
  · have hw := hw.1 hc
    refine z_iconst (v := (-1 : Int32)) (pc := 40) X d_M_pendingAt_40 (by decide) ?_
    exact z_iret (pc := 41) X d_M_pendingAt_41 hw
  · have hw := hw.2 hc
    refine z_iload_n (pc := 12) X 2 d_M_pendingAt_12 rfl rfl ?_
    refine z_if_lt (tgt := 40) (pc := 13) X d_M_pendingAt_13 (by decide) (fun hc => ?_) (fun hc => ?_)
    · have hw := hw.1 hc
      refine z_iconst (v := (-1 : Int32)) (pc := 40) X d_M_pendingAt_40 (by decide) ?_
      exact z_iret (pc := 41) X d_M_pendingAt_41 hw
    · have hw := hw.2 hc
      refine z_iload_n (pc := 16) X 2 d_M_pendingAt_16 rfl rfl ?_
      refine z_aload_n (pc := 17) X 0 d_M_pendingAt_17 rfl rfl ?_
      refine z_get (i := 0) (pc := 18) X (by decide) (cM_M _) rfl hin_M 25 (by decide) lk198 rfl rfl d_M_pendingAt_18 ?_
      refine z_iload_n (pc := 21) X 1 d_M_pendingAt_21 rfl rfl ?_
      obtain ⟨k4, hk4, ek4, hw⟩ := hw
      refine z_iald (i := 21) (pc := 22) X 0 (by decide) (cM__count _) rfl (by decide) hk4 ek4 d_M_pendingAt_22 ?_
      refine z_icmp_ge (tgt := 40) (pc := 23) X d_M_pendingAt_23 (by decide) (fun hc => ?_) (fun hc => ?_)
      · have hw := hw.1 hc
        refine z_iconst (v := (-1 : Int32)) (pc := 40) X d_M_pendingAt_40 (by decide) ?_
        exact z_iret (pc := 41) X d_M_pendingAt_41 hw
      · have hw := hw.2 hc
        refine z_aload_n (pc := 26) X 0 d_M_pendingAt_26 rfl rfl ?_
        refine z_get (i := 0) (pc := 27) X (by decide) (cM_M _) rfl hin_M 24 (by decide) lk197 rfl rfl d_M_pendingAt_27 ?_
        refine z_bipush (v := (6 : Int32)) (pc := 30) X d_M_pendingAt_30 (by decide) ?_
        refine z_iload_n (pc := 32) X 1 d_M_pendingAt_32 rfl rfl ?_
        refine z_imul (pc := 33) X d_M_pendingAt_33 ?_
        refine z_iload_n (pc := 34) X 2 d_M_pendingAt_34 rfl rfl ?_
        refine z_iadd (pc := 35) X d_M_pendingAt_35 ?_
        obtain ⟨k5, hk5, ek5, hw⟩ := hw
        refine z_iald (i := 20) (pc := 36) X 0 (by decide) (cM__gathered _) rfl (by decide) hk5 ek5 d_M_pendingAt_36 ?_
        refine z_goto (tgt := 41) (pc := 37) X d_M_pendingAt_37 (by decide) ?_
        exact z_iret (pc := 41) X d_M_pendingAt_41 hw
theorem c_M_pendingAt {l : Launch} {D : va_G} {a : Nat → Nat} {q : Nat → ClassId} (hI : injW a 24) {h : RS} {x1 : Int32} {x2 : Int32} {Q : Int32 → RS → Prop} (hw : wp_M_pendingAt h x1 x2 Q) : Met l y_M_pendingAt [.code y_M_pendingAt b_M_pendingAt 3 (some .int)] { frames := 1, cells := 0, slots := 0, locals := 22 } (va_Pc [.ref (a 0), .int x1, .int x2] (PreC tbW D clM (tyM q) 24 a (ceM a q) h)) (va_Qi Q (AtC D clM 24 a (ceM a q)) (inW a 24)) 0 0 (inW a 24) :=
  m_of (by decide +kernel) hI tb_ok (Nat.le_of_ble_eq_true rfl) (fun p e R s m below meth c X => kb_M_pendingAt_0 X hw)
set_option maxHeartbeats 4000000 in
set_option maxRecDepth 100000 in
theorem kb_M_value_0 {Q : Int32 → RS → Prop} (X : Cx p l R s m args meth c b_M_value 2 R_M (some .int) D clM (tyM q) a 24 1 21 tbW) {h : RS} {x1 : Int32} (hw : bp_M_value_0 Q h x1) : Z p l e R s m args below meth c D clM 24 a (ceM a q) 2 (MQ below (va_Qi Q (AtC D clM 24 a (ceM a q)) (inW a 24)) args s 0 0 (inW a 24)) h 0 [(0, .ref (a 0)), (1, .int x1)] [] := by
  unfold bp_M_value_0 at hw
  refine z_aload_n (pc := 0) X 0 d_M_value_0 rfl rfl ?_
  refine z_iload_n (pc := 1) X 1 d_M_value_1 rfl rfl ?_
  refine z_cVi (i := 0) (pc := 2) X [.int _] (c_M_isMessage X.2.2.2.2.2.2.2.2.1 hw) (by decide) (by decide) lk208 cd_M_isMessage lk163 lk209 lk210 (by decide) (cM_M _) rfl nm_M_isMessage rfl rfl (Nat.le_of_ble_eq_true rfl) d_M_value_2 (fun r1 h2 hw => ?_)
  refine z_if_eq (tgt := 17) (pc := 5) X d_M_value_5 (by decide) (fun hc => ?_) (fun hc => ?_)
  · have hw := hw.1 hc
    refine z_iconst (v := (0 : Int32)) (pc := 17) X d_M_value_17 (by decide) ?_
    exact z_iret (pc := 18) X d_M_value_18 hw
  · have hw := hw.2 hc
    refine z_aload_n (pc := 8) X 0 d_M_value_8 rfl rfl ?_
    refine z_get (i := 0) (pc := 9) X (by decide) (cM_M _) rfl hin_M 18 (by decide) lk194 rfl rfl d_M_value_9 ?_
    refine z_iload_n (pc := 12) X 1 d_M_value_12 rfl rfl ?_
    obtain ⟨k3, hk3, ek3, hw⟩ := hw
    refine z_iald (i := 15) (pc := 13) X 0 (by decide) (cM__values _) rfl (by decide) hk3 ek3 d_M_value_13 ?_
    refine z_goto (tgt := 18) (pc := 14) X d_M_value_14 (by decide) ?_
    exact z_iret (pc := 18) X d_M_value_18 hw
theorem c_M_value {l : Launch} {D : va_G} {a : Nat → Nat} {q : Nat → ClassId} (hI : injW a 24) {h : RS} {x1 : Int32} {Q : Int32 → RS → Prop} (hw : wp_M_value h x1 Q) : Met l y_M_value [.code y_M_value b_M_value 2 (some .int)] { frames := 1, cells := 0, slots := 0, locals := 21 } (va_Pc [.ref (a 0), .int x1] (PreC tbW D clM (tyM q) 24 a (ceM a q) h)) (va_Qi Q (AtC D clM 24 a (ceM a q)) (inW a 24)) 0 0 (inW a 24) :=
  m_of (by decide +kernel) hI tb_ok (Nat.le_of_ble_eq_true rfl) (fun p e R s m below meth c X => kb_M_value_0 X hw)
set_option maxHeartbeats 4000000 in
set_option maxRecDepth 100000 in
theorem kb_M_state_0 {Q : Int32 → RS → Prop} (X : Cx p l R s m args meth c b_M_state 2 R_M (some .int) D clM (tyM q) a 24 1 21 tbW) {h : RS} {x1 : Int32} (hw : bp_M_state_0 Q h x1) : Z p l e R s m args below meth c D clM 24 a (ceM a q) 2 (MQ below (va_Qi Q (AtC D clM 24 a (ceM a q)) (inW a 24)) args s 0 0 (inW a 24)) h 0 [(0, .ref (a 0)), (1, .int x1)] [] := by
  unfold bp_M_state_0 at hw
  refine z_aload_n (pc := 0) X 0 d_M_state_0 rfl rfl ?_
  refine z_iload_n (pc := 1) X 1 d_M_state_1 rfl rfl ?_
  refine z_cVi (i := 0) (pc := 2) X [.int _] (c_M_isMessage X.2.2.2.2.2.2.2.2.1 hw) (by decide) (by decide) lk208 cd_M_isMessage lk163 lk209 lk210 (by decide) (cM_M _) rfl nm_M_isMessage rfl rfl (Nat.le_of_ble_eq_true rfl) d_M_state_2 (fun r1 h2 hw => ?_)
  refine z_if_eq (tgt := 17) (pc := 5) X d_M_state_5 (by decide) (fun hc => ?_) (fun hc => ?_)
  · have hw := hw.1 hc
    refine z_iconst (v := (0 : Int32)) (pc := 17) X d_M_state_17 (by decide) ?_
    exact z_iret (pc := 18) X d_M_state_18 hw
  · have hw := hw.2 hc
    refine z_aload_n (pc := 8) X 0 d_M_state_8 rfl rfl ?_
    refine z_get (i := 0) (pc := 9) X (by decide) (cM_M _) rfl hin_M 19 (by decide) lk195 rfl rfl d_M_state_9 ?_
    refine z_iload_n (pc := 12) X 1 d_M_state_12 rfl rfl ?_
    obtain ⟨k3, hk3, ek3, hw⟩ := hw
    refine z_iald (i := 16) (pc := 13) X 0 (by decide) (cM__states _) rfl (by decide) hk3 ek3 d_M_state_13 ?_
    refine z_goto (tgt := 18) (pc := 14) X d_M_state_14 (by decide) ?_
    exact z_iret (pc := 18) X d_M_state_18 hw
theorem c_M_state {l : Launch} {D : va_G} {a : Nat → Nat} {q : Nat → ClassId} (hI : injW a 24) {h : RS} {x1 : Int32} {Q : Int32 → RS → Prop} (hw : wp_M_state h x1 Q) : Met l y_M_state [.code y_M_state b_M_state 2 (some .int)] { frames := 1, cells := 0, slots := 0, locals := 21 } (va_Pc [.ref (a 0), .int x1] (PreC tbW D clM (tyM q) 24 a (ceM a q) h)) (va_Qi Q (AtC D clM 24 a (ceM a q)) (inW a 24)) 0 0 (inW a 24) :=
  m_of (by decide +kernel) hI tb_ok (Nat.le_of_ble_eq_true rfl) (fun p e R s m below meth c X => kb_M_state_0 X hw)
set_option maxHeartbeats 4000000 in
set_option maxRecDepth 100000 in
theorem kb_M_consumer_0 {Q : Int32 → RS → Prop} (X : Cx p l R s m args meth c b_M_consumer 2 R_M (some .int) D clM (tyM q) a 24 1 21 tbW) {h : RS} {x1 : Int32} (hw : bp_M_consumer_0 Q h x1) : Z p l e R s m args below meth c D clM 24 a (ceM a q) 2 (MQ below (va_Qi Q (AtC D clM 24 a (ceM a q)) (inW a 24)) args s 0 0 (inW a 24)) h 0 [(0, .ref (a 0)), (1, .int x1)] [] := by
  unfold bp_M_consumer_0 at hw
  refine z_aload_n (pc := 0) X 0 d_M_consumer_0 rfl rfl ?_
  refine z_iload_n (pc := 1) X 1 d_M_consumer_1 rfl rfl ?_
  refine z_cVi (i := 0) (pc := 2) X [.int _] (c_M_isMessage X.2.2.2.2.2.2.2.2.1 hw) (by decide) (by decide) lk208 cd_M_isMessage lk163 lk209 lk210 (by decide) (cM_M _) rfl nm_M_isMessage rfl rfl (Nat.le_of_ble_eq_true rfl) d_M_consumer_2 (fun r1 h2 hw => ?_)
  refine z_if_eq (tgt := 17) (pc := 5) X d_M_consumer_5 (by decide) (fun hc => ?_) (fun hc => ?_)
  · have hw := hw.1 hc
    refine z_iconst (v := (-1 : Int32)) (pc := 17) X d_M_consumer_17 (by decide) ?_
    exact z_iret (pc := 18) X d_M_consumer_18 hw
  · have hw := hw.2 hc
    refine z_aload_n (pc := 8) X 0 d_M_consumer_8 rfl rfl ?_
    refine z_get (i := 0) (pc := 9) X (by decide) (cM_M _) rfl hin_M 20 (by decide) lk196 rfl rfl d_M_consumer_9 ?_
    refine z_iload_n (pc := 12) X 1 d_M_consumer_12 rfl rfl ?_
    obtain ⟨k3, hk3, ek3, hw⟩ := hw
    refine z_iald (i := 17) (pc := 13) X 0 (by decide) (cM__consumers _) rfl (by decide) hk3 ek3 d_M_consumer_13 ?_
    refine z_goto (tgt := 18) (pc := 14) X d_M_consumer_14 (by decide) ?_
    exact z_iret (pc := 18) X d_M_consumer_18 hw
theorem c_M_consumer {l : Launch} {D : va_G} {a : Nat → Nat} {q : Nat → ClassId} (hI : injW a 24) {h : RS} {x1 : Int32} {Q : Int32 → RS → Prop} (hw : wp_M_consumer h x1 Q) : Met l y_M_consumer [.code y_M_consumer b_M_consumer 2 (some .int)] { frames := 1, cells := 0, slots := 0, locals := 21 } (va_Pc [.ref (a 0), .int x1] (PreC tbW D clM (tyM q) 24 a (ceM a q) h)) (va_Qi Q (AtC D clM 24 a (ceM a q)) (inW a 24)) 0 0 (inW a 24) :=
  m_of (by decide +kernel) hI tb_ok (Nat.le_of_ble_eq_true rfl) (fun p e R s m below meth c X => kb_M_consumer_0 X hw)
set_option maxHeartbeats 4000000 in
set_option maxRecDepth 100000 in
theorem kb_M_answer_0 {Q : Int32 → RS → Prop} (X : Cx p l R s m args meth c b_M_answer 2 R_M (some .int) D clM (tyM q) a 24 1 21 tbW) {h : RS} {x1 : Int32} (hw : bp_M_answer_0 Q h x1) : Z p l e R s m args below meth c D clM 24 a (ceM a q) 2 (MQ below (va_Qi Q (AtC D clM 24 a (ceM a q)) (inW a 24)) args s 0 0 (inW a 24)) h 0 [(0, .ref (a 0)), (1, .int x1)] [] := by
  unfold bp_M_answer_0 at hw
  refine z_aload_n (pc := 0) X 0 d_M_answer_0 rfl rfl ?_
  refine z_iload_n (pc := 1) X 1 d_M_answer_1 rfl rfl ?_
  refine z_cVi (i := 0) (pc := 2) X [.int _] (c_M_isMessage X.2.2.2.2.2.2.2.2.1 hw) (by decide) (by decide) lk208 cd_M_isMessage lk163 lk209 lk210 (by decide) (cM_M _) rfl nm_M_isMessage rfl rfl (Nat.le_of_ble_eq_true rfl) d_M_answer_2 (fun r1 h2 hw => ?_)
  refine z_if_eq (tgt := 17) (pc := 5) X d_M_answer_5 (by decide) (fun hc => ?_) (fun hc => ?_)
  · have hw := hw.1 hc
    refine z_iconst (v := (0 : Int32)) (pc := 17) X d_M_answer_17 (by decide) ?_
    exact z_iret (pc := 18) X d_M_answer_18 hw
  · have hw := hw.2 hc
    refine z_aload_n (pc := 8) X 0 d_M_answer_8 rfl rfl ?_
    refine z_get (i := 0) (pc := 9) X (by decide) (cM_M _) rfl hin_M 21 (by decide) lk242 rfl rfl d_M_answer_9 ?_
    refine z_iload_n (pc := 12) X 1 d_M_answer_12 rfl rfl ?_
    obtain ⟨k3, hk3, ek3, hw⟩ := hw
    refine z_iald (i := 18) (pc := 13) X 0 (by decide) (cM__answers _) rfl (by decide) hk3 ek3 d_M_answer_13 ?_
    refine z_goto (tgt := 18) (pc := 14) X d_M_answer_14 (by decide) ?_
    exact z_iret (pc := 18) X d_M_answer_18 hw
theorem c_M_answer {l : Launch} {D : va_G} {a : Nat → Nat} {q : Nat → ClassId} (hI : injW a 24) {h : RS} {x1 : Int32} {Q : Int32 → RS → Prop} (hw : wp_M_answer h x1 Q) : Met l y_M_answer [.code y_M_answer b_M_answer 2 (some .int)] { frames := 1, cells := 0, slots := 0, locals := 21 } (va_Pc [.ref (a 0), .int x1] (PreC tbW D clM (tyM q) 24 a (ceM a q) h)) (va_Qi Q (AtC D clM 24 a (ceM a q)) (inW a 24)) 0 0 (inW a 24) :=
  m_of (by decide +kernel) hI tb_ok (Nat.le_of_ble_eq_true rfl) (fun p e R s m below meth c X => kb_M_answer_0 X hw)
set_option maxHeartbeats 4000000 in
set_option maxRecDepth 100000 in
theorem kb_M_fired_0 {Q : Int32 → RS → Prop} (X : Cx p l R s m args meth c b_M_fired 2 R_M (some .int) D clM (tyM q) a 24 0 0 tbW) {h : RS} {x1 : Int32} (hw : bp_M_fired_0 Q h x1) : Z p l e R s m args below meth c D clM 24 a (ceM a q) 2 (MQ below (va_Qi Q (AtC D clM 24 a (ceM a q)) (inW a 24)) args s 0 0 (inW a 24)) h 0 [(0, .ref (a 0)), (1, .int x1)] [] := by
  unfold bp_M_fired_0 at hw
  refine z_iload_n (pc := 0) X 1 d_M_fired_0 rfl rfl ?_
  refine z_if_lt (tgt := 21) (pc := 1) X d_M_fired_1 (by decide) (fun hc => ?_) (fun hc => ?_)
  · have hw := hw.1 hc
    refine z_iconst (v := (-1 : Int32)) (pc := 21) X d_M_fired_21 (by decide) ?_
    exact z_iret (pc := 22) X d_M_fired_22 hw
  · have hw := hw.2 hc
    refine z_iload_n (pc := 4) X 1 d_M_fired_4 rfl rfl ?_
    refine z_aload_n (pc := 5) X 0 d_M_fired_5 rfl rfl ?_
    refine z_get (i := 0) (pc := 6) X (by decide) (cM_M _) rfl hin_M 22 (by decide) lk234 rfl rfl d_M_fired_6 ?_
    refine z_icmp_ge (tgt := 21) (pc := 9) X d_M_fired_9 (by decide) (fun hc => ?_) (fun hc => ?_)
    · have hw := hw.1 hc
      refine z_iconst (v := (-1 : Int32)) (pc := 21) X d_M_fired_21 (by decide) ?_
      exact z_iret (pc := 22) X d_M_fired_22 hw
    · have hw := hw.2 hc
      refine z_aload_n (pc := 12) X 0 d_M_fired_12 rfl rfl ?_
      refine z_get (i := 0) (pc := 13) X (by decide) (cM_M _) rfl hin_M 23 (by decide) lk235 rfl rfl d_M_fired_13 ?_
      refine z_iload_n (pc := 16) X 1 d_M_fired_16 rfl rfl ?_
      obtain ⟨k1, hk1, ek1, hw⟩ := hw
      refine z_iald (i := 19) (pc := 17) X 0 (by decide) (cM__firedBy _) rfl (by decide) hk1 ek1 d_M_fired_17 ?_
      refine z_goto (tgt := 22) (pc := 18) X d_M_fired_18 (by decide) ?_
      exact z_iret (pc := 22) X d_M_fired_22 hw
theorem c_M_fired {l : Launch} {D : va_G} {a : Nat → Nat} {q : Nat → ClassId} (hI : injW a 24) {h : RS} {x1 : Int32} {Q : Int32 → RS → Prop} (hw : wp_M_fired h x1 Q) : Met l y_M_fired [.code y_M_fired b_M_fired 2 (some .int)] { frames := 0, cells := 0, slots := 0, locals := 0 } (va_Pc [.ref (a 0), .int x1] (PreC tbW D clM (tyM q) 24 a (ceM a q) h)) (va_Qi Q (AtC D clM 24 a (ceM a q)) (inW a 24)) 0 0 (inW a 24) :=
  m_of (by decide +kernel) hI tb_ok (Nat.le_of_ble_eq_true rfl) (fun p e R s m below meth c X => kb_M_fired_0 X hw)
end
