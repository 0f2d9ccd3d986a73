section
variable {p : Program} {l : Launch} {e : Env} {R : Room} {s : State} {m : MethodId} {args : Array Value} {below : List Frame} {meth : Method} {c : Code} {D : va_G} {a : Nat → Nat} {q : Nat → ClassId}
set_option maxHeartbeats 4000000 in
set_option maxRecDepth 100000 in
theorem kb_V_greatest_6 {Q : Int32 → RS → Prop} (X : Cx p l R s m args meth c b_V_greatest 4 R_V (some .int) D clV (tyV q) a 101 1 21 tbW) {K6 : RS → Int32 → Int32 → Int32 → Prop} (hK6 : ∀ (h : RS) (x1 : Int32) (x2 : Int32) (x3 : Int32), K6 h x1 x2 x3 → Z p l e R s m args below meth c D clV 101 a (ceV a q) 4 (MQ below (va_Qi Q (AtC D clV 101 a (ceV a q)) (inW a 101)) args s 0 0 (inW a 101)) h 6 [(0, .ref (a 12)), (1, .int x1), (2, .int x2), (3, .int x3)] []) {h : RS} {x1 : Int32} {x2 : Int32} {x3 : Int32} (hw : bp_V_greatest_6 K6 Q h x1 x2 x3) : Z p l e R s m args below meth c D clV 101 a (ceV a q) 4 (MQ below (va_Qi Q (AtC D clV 101 a (ceV a q)) (inW a 101)) args s 0 0 (inW a 101)) h 6 [(0, .ref (a 12)), (1, .int x1), (2, .int x2), (3, .int x3)] [] := by
  unfold bp_V_greatest_6 at hw
  refine z_iload_n (pc := 6) X 3 d_V_greatest_6 rfl rfl ?_
  refine z_iload_n (pc := 7) X 1 d_V_greatest_7 rfl rfl ?_
  refine z_icmp_ge (tgt := 25) (pc := 8) X d_V_greatest_8 (by decide) (fun hc => ?_) (fun hc => ?_)
  · have hw := hw.1 hc
    refine z_iload_n (pc := 25) X 2 d_V_greatest_25 rfl rfl ?_
    exact z_iret (pc := 26) X d_V_greatest_26 hw
  · have hw := hw.2 hc
    refine z_iload_n (pc := 11) X 2 d_V_greatest_11 rfl rfl ?_
    refine z_aload_n (pc := 12) X 0 d_V_greatest_12 rfl rfl ?_
    refine z_iload_n (pc := 13) X 3 d_V_greatest_13 rfl rfl ?_
    obtain ⟨k1, hk1, ek1, hw⟩ := hw
    refine z_iald (i := 12) (pc := 14) X 0 (by decide) (cV_tVa _) rfl (by decide) hk1 ek1 d_V_greatest_14 ?_
    refine z_mmax (pc := 15) X lk135 lk136 lk137 lk138 (by decide) (Nat.le_of_ble_eq_true rfl) d_V_greatest_15 ?_
    refine z_istore_n (pc := 18) X d_V_greatest_18 rfl (by decide) rfl ?_
    refine z_iinc (v := (x3 + 1)) (pc := 19) X 3 d_V_greatest_19 rfl rfl (by decide) rfl ?_
    refine z_goto (tgt := 6) (pc := 22) X d_V_greatest_22 (by decide) ?_
    exact z_to [2, 3, 1, 0] rfl (hK6 _ _ _ _ hw)
theorem kl_V_greatest_6 {Q : Int32 → RS → Prop} (X : Cx p l R s m args meth c b_V_greatest 4 R_V (some .int) D clV (tyV q) a 101 1 21 tbW) : ∀ (n : Nat) (h : RS) (x1 : Int32) (x2 : Int32) (x3 : Int32), wp_V_greatest_6 Q n h x1 x2 x3 → Z p l e R s m args below meth c D clV 101 a (ceV a q) 4 (MQ below (va_Qi Q (AtC D clV 101 a (ceV a q)) (inW a 101)) args s 0 0 (inW a 101)) h 6 [(0, .ref (a 12)), (1, .int x1), (2, .int x2), (3, .int x3)] [] := by
  intro n
  induction n with
  | zero =>
    intro h x1 x2 x3 hw
    exact hw.elim
  | succ n ih =>
    intro h x1 x2 x3 hw
    exact kb_V_greatest_6 X ih hw
set_option maxHeartbeats 4000000 in
set_option maxRecDepth 100000 in
theorem kb_V_greatest_0 {Q : Int32 → RS → Prop} (X : Cx p l R s m args meth c b_V_greatest 4 R_V (some .int) D clV (tyV q) a 101 1 21 tbW) {h : RS} {x1 : Int32} (hw : bp_V_greatest_0 Q h x1) : Z p l e R s m args below meth c D clV 101 a (ceV a q) 4 (MQ below (va_Qi Q (AtC D clV 101 a (ceV a q)) (inW a 101)) args s 0 0 (inW a 101)) h 0 [(0, .ref (a 12)), (1, .int x1)] [] := by
  unfold bp_V_greatest_0 at hw
  refine z_aload_n (pc := 0) X 0 d_V_greatest_0 rfl rfl ?_
  refine z_iconst (v := (0 : Int32)) (pc := 1) X d_V_greatest_1 (by decide) ?_
  obtain ⟨k2, hk2, ek2, hw⟩ := hw
  refine z_iald (i := 12) (pc := 2) X 0 (by decide) (cV_tVa _) rfl (by decide) hk2 ek2 d_V_greatest_2 ?_
  refine z_istore_n (pc := 3) X d_V_greatest_3 rfl (by decide) rfl ?_
  refine z_iconst (v := (1 : Int32)) (pc := 4) X d_V_greatest_4 (by decide) ?_
  refine z_istore_n (pc := 5) X d_V_greatest_5 rfl (by decide) rfl ?_
  obtain ⟨n3, hw⟩ := hw
  exact z_to [2, 3, 1, 0] rfl (kl_V_greatest_6 X n3 _ _ _ _ hw)
theorem c_V_greatest {l : Launch} {D : va_G} {a : Nat → Nat} {q : Nat → ClassId} (hI : injW a 101) {h : RS} {x1 : Int32} {Q : Int32 → RS → Prop} (hw : wp_V_greatest h x1 Q) : Met l y_V_greatest [.code y_V_greatest b_V_greatest 4 (some .int)] { frames := 1, cells := 0, slots := 0, locals := 21 } (va_Pc [.ref (a 12), .int x1] (PreC tbW D clV (tyV q) 101 a (ceV a q) h)) (va_Qi Q (AtC D clV 101 a (ceV a q)) (inW a 101)) 0 0 (inW a 101) :=
  m_of (by decide +kernel) hI tb_ok (Nat.le_of_ble_eq_true rfl) (fun p e R s m below meth c X => kb_V_greatest_0 X hw)
set_option maxHeartbeats 4000000 in
set_option maxRecDepth 100000 in
theorem kb_Re_evaluate_0 {Q : Int32 → RS → Prop} (X : Cx p l R s m args meth c b_Re_evaluate 4 R_Re (some .int) D clV (tyV q) a 101 2 44 tbW) {h : RS} {i0 : Nat} {x1 : Int32} (hi0 : i0 < 8) (hw : bp_Re_evaluate_0 Q h i0 x1) : Z p l e R s m args below meth c D clV 101 a (ceV a q) 4 (MQ below (va_Qi Q (AtC D clV 101 a (ceV a q)) (inW a 101)) args s 0 0 (inW a 101)) h 0 [(0, .ref (a (29 + i0))), (1, .int x1), (2, .ref (a 12))] [] := by
  unfold bp_Re_evaluate_0 at hw
  refine z_aload_n (pc := 0) X 0 d_Re_evaluate_0 rfl rfl ?_
  refine z_get (i := (29 + i0)) (pc := 1) X (lt_ix hi0 (by decide)) (cV_Re _ hi0) rfl hin_Re 11 (by decide) lk36 rfl rfl d_Re_evaluate_1 ?_
  refine z_iload_n (pc := 4) X 1 d_Re_evaluate_4 rfl rfl ?_
  obtain ⟨k1, hk1, ek1, hw⟩ := hw
  refine z_iald (i := (93 + i0)) (pc := 5) X 0 (lt_ix hi0 (by decide)) (cV_aN _ hi0) rfl (by decide) hk1 ek1 d_Re_evaluate_5 ?_
  refine z_istore_n (pc := 6) X d_Re_evaluate_6 rfl (by decide) rfl ?_
  refine z_aload_n (pc := 7) X 1 d_Re_evaluate_7 rfl rfl ?_
  refine z_get (i := (29 + i0)) (pc := 8) X (lt_ix hi0 (by decide)) (cV_Re _ hi0) rfl hin_Re 9 (by decide) lk34 rfl rfl d_Re_evaluate_8 ?_
  refine z_iload_n (pc := 11) X 2 d_Re_evaluate_11 rfl rfl ?_
  obtain ⟨k2, hk2, ek2, hw⟩ := hw
  refine z_iald (i := (77 + i0)) (pc := 12) X 0 (lt_ix hi0 (by decide)) (cV_aK _ hi0) rfl (by decide) hk2 ek2 d_Re_evaluate_12 ?_
  refine z_sw (k := 1) (fun ek => ?_) (fun ek1 => ?_)
  · have hw := hw.1 ek
    refine z_tableIn (tgt := 44) (pc := 13) X d_Re_evaluate_13 (by rw [ek]; decide) (by rw [ek]; decide) (by rw [ek]; rfl) (by decide) ?_
    refine z_aload_n (pc := 44) X 3 d_Re_evaluate_44 rfl rfl ?_
    refine z_aload_n (pc := 45) X 1 d_Re_evaluate_45 rfl rfl ?_
    refine z_get (i := (29 + i0)) (pc := 46) X (lt_ix hi0 (by decide)) (cV_Re _ hi0) rfl hin_Re 10 (by decide) lk35 rfl rfl d_Re_evaluate_46 ?_
    refine z_iload_n (pc := 49) X 2 d_Re_evaluate_49 rfl rfl ?_
    obtain ⟨k3, hk3, ek3, hw⟩ := hw
    refine z_iald (i := (85 + i0)) (pc := 50) X 0 (lt_ix hi0 (by decide)) (cV_aP _ hi0) rfl (by decide) hk3 ek3 d_Re_evaluate_50 ?_
    obtain ⟨k4, hk4, ek4, hw⟩ := hw
    refine z_iald (i := 12) (pc := 51) X 0 (by decide) (cV_tVa _) rfl (by decide) hk4 ek4 d_Re_evaluate_51 ?_
    refine z_iload_n (pc := 52) X 0 d_Re_evaluate_52 rfl rfl ?_
    refine z_iadd (pc := 53) X d_Re_evaluate_53 ?_
    exact z_iret (pc := 54) X d_Re_evaluate_54 hw
  have hw := hw.2
  refine z_sw (k := 2) (fun ek => ?_) (fun ek2 => ?_)
  · have hw := hw.1 ek
    refine z_tableIn (tgt := 55) (pc := 13) X d_Re_evaluate_13 (by rw [ek]; decide) (by rw [ek]; decide) (by rw [ek]; rfl) (by decide) ?_
    refine z_aload_n (pc := 55) X 3 d_Re_evaluate_55 rfl rfl ?_
    refine z_aload_n (pc := 56) X 1 d_Re_evaluate_56 rfl rfl ?_
    refine z_get (i := (29 + i0)) (pc := 57) X (lt_ix hi0 (by decide)) (cV_Re _ hi0) rfl hin_Re 10 (by decide) lk35 rfl rfl d_Re_evaluate_57 ?_
    refine z_iload_n (pc := 60) X 2 d_Re_evaluate_60 rfl rfl ?_
    obtain ⟨k5, hk5, ek5, hw⟩ := hw
    refine z_iald (i := (85 + i0)) (pc := 61) X 0 (lt_ix hi0 (by decide)) (cV_aP _ hi0) rfl (by decide) hk5 ek5 d_Re_evaluate_61 ?_
    obtain ⟨k6, hk6, ek6, hw⟩ := hw
    refine z_iald (i := 12) (pc := 62) X 0 (by decide) (cV_tVa _) rfl (by decide) hk6 ek6 d_Re_evaluate_62 ?_
    refine z_iload_n (pc := 63) X 0 d_Re_evaluate_63 rfl rfl ?_
    refine z_imul (pc := 64) X d_Re_evaluate_64 ?_
    exact z_iret (pc := 65) X d_Re_evaluate_65 hw
  have hw := hw.2
  refine z_sw (k := 3) (fun ek => ?_) (fun ek3 => ?_)
  · have hw := hw.1 ek
    refine z_tableIn (tgt := 66) (pc := 13) X d_Re_evaluate_13 (by rw [ek]; decide) (by rw [ek]; decide) (by rw [ek]; rfl) (by decide) ?_
    refine z_aload_n (pc := 66) X 3 d_Re_evaluate_66 rfl rfl ?_
    refine z_aload_n (pc := 67) X 1 d_Re_evaluate_67 rfl rfl ?_
    refine z_get (i := (29 + i0)) (pc := 68) X (lt_ix hi0 (by decide)) (cV_Re _ hi0) rfl hin_Re 0 (by decide) lk6 rfl rfl d_Re_evaluate_68 ?_
    refine z_cSNl (pc := 71) X [.ref (a 12), .int _] (c_V_sum X.2.2.2.2.2.2.2.2.1 hw) (by decide) (by decide) lk105 cd_V_sum lk11 lk106 nm_V_sum rfl rfl (Nat.le_of_ble_eq_true rfl) d_Re_evaluate_71 (fun r7 h8 hw => ?_)
    refine z_l2i (pc := 74) X d_Re_evaluate_74 ?_
    refine z_iload_n (pc := 75) X 0 d_Re_evaluate_75 rfl rfl ?_
    refine z_iadd (pc := 76) X d_Re_evaluate_76 ?_
    exact z_iret (pc := 77) X d_Re_evaluate_77 hw
  have hw := hw.2
  refine z_sw (k := 4) (fun ek => ?_) (fun ek4 => ?_)
  · have hw := hw.1 ek
    refine z_tableIn (tgt := 78) (pc := 13) X d_Re_evaluate_13 (by rw [ek]; decide) (by rw [ek]; decide) (by rw [ek]; rfl) (by decide) ?_
    refine z_aload_n (pc := 78) X 3 d_Re_evaluate_78 rfl rfl ?_
    refine z_aload_n (pc := 79) X 1 d_Re_evaluate_79 rfl rfl ?_
    refine z_get (i := (29 + i0)) (pc := 80) X (lt_ix hi0 (by decide)) (cV_Re _ hi0) rfl hin_Re 0 (by decide) lk6 rfl rfl d_Re_evaluate_80 ?_
    refine z_cSNi (pc := 83) X [.ref (a 12), .int _] (c_V_greatest X.2.2.2.2.2.2.2.2.1 hw) (by decide) (by decide) lk139 cd_V_greatest lk11 lk140 nm_V_greatest rfl rfl (Nat.le_of_ble_eq_true rfl) d_Re_evaluate_83 (fun r9 h10 hw => ?_)
    exact z_iret (pc := 86) X d_Re_evaluate_86 hw
  have hw := hw.2
  have hw := hw ek1 ek2 ek3 ek4
  refine z_tableOut (tgt := 87) (pc := 13) X d_Re_evaluate_13 (sw_1_4 ek1 ek2 ek3 ek4) (by decide) ?_
  refine z_iload_n (pc := 87) X 0 d_Re_evaluate_87 rfl rfl ?_
  exact z_iret (pc := 88) X d_Re_evaluate_88 hw
theorem c_Re_evaluate {l : Launch} {D : va_G} {a : Nat → Nat} {q : Nat → ClassId} (hI : injW a 101) {h : RS} {i0 : Nat} {x1 : Int32} (hi0 : i0 < 8) {Q : Int32 → RS → Prop} (hw : wp_Re_evaluate h i0 x1 Q) : Met l y_Re_evaluate [.code y_Re_evaluate b_Re_evaluate 4 (some .int)] { frames := 2, cells := 0, slots := 0, locals := 44 } (va_Pc [.ref (a (29 + i0)), .int x1, .ref (a 12)] (PreC tbW D clV (tyV q) 101 a (ceV a q) h)) (va_Qi Q (AtC D clV 101 a (ceV a q)) (inW a 101)) 0 0 (inW a 101) :=
  m_of (by decide +kernel) hI tb_ok (Nat.le_of_ble_eq_true rfl) (fun p e R s m below meth c X => kb_Re_evaluate_0 X hi0 hw)
set_option maxHeartbeats 4000000 in
set_option maxRecDepth 100000 in
theorem kb_V_fire_38 {Q : RS → Prop} (X : Cx p l R s m args meth c b_V_fire 5 R_V none D clV (tyV q) a 101 3 67 tbW) {K38 : RS → Int32 → Nat → Int32 → Prop} (hK38 : ∀ (h : RS) (x1 : Int32) (i2 : Nat) (x3 : Int32), i2 < 8 → K38 h x1 i2 x3 → Z p l e R s m args below meth c D clV 101 a (ceV a q) 5 (MQ below (va_Qv Q (AtC D clV 101 a (ceV a q)) (inW a 101)) args s 0 0 (inW a 101)) h 38 [(0, .ref (a 0)), (1, .int x1), (2, .ref (a (29 + i2))), (3, .int x3)] []) {h : RS} {x1 : Int32} {i2 : Nat} {x3 : Int32} (hi2 : i2 < 8) (hw : bp_V_fire_38 K38 Q h x1 i2 x3) : Z p l e R s m args below meth c D clV 101 a (ceV a q) 5 (MQ below (va_Qv Q (AtC D clV 101 a (ceV a q)) (inW a 101)) args s 0 0 (inW a 101)) h 38 [(0, .ref (a 0)), (1, .int x1), (2, .ref (a (29 + i2))), (3, .int x3)] [] := by
  unfold bp_V_fire_38 at hw
  refine z_iload_n (pc := 38) X 3 d_V_fire_38 rfl rfl ?_
  refine z_aload_n (pc := 39) X 2 d_V_fire_39 rfl rfl ?_
  refine z_getN (i := (29 + i2)) (pc := 40) X (lt_ix hi2 (by decide)) (cV_Re _ hi2) rfl hin_Re 6 (by decide) lk141 rfl rfl d_V_fire_40 ?_
  refine z_icmp_ge (tgt := 115) (pc := 43) X d_V_fire_43 (by decide) (fun hc => ?_) (fun hc => ?_)
  · have hw := hw.1 hc
    refine z_aload_n (pc := 115) X 0 d_V_fire_115 rfl rfl ?_
    refine z_get (i := 0) (pc := 116) X (by decide) (cV_V _) rfl hin_V 7 (by decide) lk133 rfl rfl d_V_fire_116 ?_
    refine z_aload_n (pc := 119) X 0 d_V_fire_119 rfl rfl ?_
    refine z_get (i := 0) (pc := 120) X (by decide) (cV_V _) rfl hin_V 8 (by decide) lk132 rfl rfl d_V_fire_120 ?_
    refine z_iload_n (pc := 123) X 1 d_V_fire_123 rfl rfl ?_
    obtain ⟨k1, hk1, ek1, hw⟩ := hw
    refine z_iast (i := 5) (pc := 124) X 0 (by decide) (fun g => (cV_Fir g)) rfl (by decide) hk1 ek1 d_V_fire_124 ?_
    have hw := hw _ rfl
    refine z_aload_n (pc := 125) X 0 d_V_fire_125 rfl rfl ?_
    refine z_dup (pc := 126) X d_V_fire_126 rfl ?_
    refine z_get (i := 0) (pc := 127) X (by decide) (cV_V _) rfl hin_V 8 (by decide) lk132 rfl rfl d_V_fire_127 ?_
    refine z_iconst (v := (1 : Int32)) (pc := 130) X d_V_fire_130 (by decide) ?_
    refine z_iadd (pc := 131) X d_V_fire_131 ?_
    refine z_put (i := 0) (pc := 132) X (by decide) (cV_V _) rfl hin_V t_V t_V_ok n_V 8 (by decide) lk132 rfl rfl (t_V_ok 8 (by decide)) rfl rfl (Nat.le_of_ble_eq_true rfl) (cV_V _) d_V_fire_132 ?_
    have hw := hw _ rfl
    exact z_vret (pc := 135) X d_V_fire_135 hw
  · have hw := hw.2 hc
    refine z_aload_n (pc := 46) X 2 d_V_fire_46 rfl rfl ?_
    refine z_iload_n (pc := 47) X 3 d_V_fire_47 rfl rfl ?_
    refine z_aload_n (pc := 48) X 0 d_V_fire_48 rfl rfl ?_
    refine z_get (i := 0) (pc := 49) X (by decide) (cV_V _) rfl hin_V 6 (by decide) lk128 rfl rfl d_V_fire_49 ?_
    refine z_getN (i := 4) (pc := 52) X (by decide) (cV_Mat _) rfl hin_Mt 1 (by decide) lk119 rfl rfl d_V_fire_52 ?_
    refine z_cVNi (i := (29 + i2)) (pc := 55) X [.int _, .ref (a 12)] (c_Re_evaluate X.2.2.2.2.2.2.2.2.1 hi2 hw) (by decide) (by decide) lk142 cd_Re_evaluate lk22 lk143 lk144 (lt_ix hi2 (by decide)) (cV_Re _ hi2) rfl nm_Re_evaluate rfl rfl (Nat.le_of_ble_eq_true rfl) d_V_fire_55 (fun r4 h5 hw => ?_)
    refine z_istore (pc := 58) X d_V_fire_58 (by decide) rfl ?_
    refine z_aload_n (pc := 60) X 3 d_V_fire_60 rfl rfl ?_
    refine z_getN (i := (29 + i2)) (pc := 61) X (lt_ix hi2 (by decide)) (cV_Re _ hi2) rfl hin_Re 7 (by decide) lk145 rfl rfl d_V_fire_61 ?_
    refine z_iload_n (pc := 64) X 4 d_V_fire_64 rfl rfl ?_
    obtain ⟨k6, hk6, ek6, hw⟩ := hw
    refine z_zald (i := (61 + i2)) (pc := 65) X 1 (lt_ix hi2 (by decide)) (cV_aS _ hi2) rfl (by decide) hk6 ek6 d_V_fire_65 ?_
    refine z_if_eq (tgt := 85) (pc := 66) X d_V_fire_66 (by decide) (fun hc => ?_) (fun hc => ?_)
    · have hw := hw.1 hc
      refine z_aload_n (pc := 85) X 1 d_V_fire_85 rfl rfl ?_
      refine z_get (i := 0) (pc := 86) X (by decide) (cV_V _) rfl hin_V 5 (by decide) lk64 rfl rfl d_V_fire_86 ?_
      refine z_getN (i := 3) (pc := 89) X (by decide) (cV_Msgs _) rfl hin_Ms 5 (by decide) lk146 rfl rfl d_V_fire_89 ?_
      refine z_aload_n (pc := 92) X 1 d_V_fire_92 rfl rfl ?_
      refine z_get (i := 0) (pc := 93) X (by decide) (cV_V _) rfl hin_V 6 (by decide) lk128 rfl rfl d_V_fire_93 ?_
      refine z_getN (i := 4) (pc := 96) X (by decide) (cV_Mat _) rfl hin_Mt 0 (by decide) lk118 rfl rfl d_V_fire_96 ?_
      refine z_aload_n (pc := 99) X 3 d_V_fire_99 rfl rfl ?_
      refine z_getN (i := (29 + i2)) (pc := 100) X (lt_ix hi2 (by decide)) (cV_Re _ hi2) rfl hin_Re 8 (by decide) lk147 rfl rfl d_V_fire_100 ?_
      refine z_iload_n (pc := 103) X 4 d_V_fire_103 rfl rfl ?_
      obtain ⟨k7, hk7, ek7, hw⟩ := hw
      refine z_iald (i := (69 + i2)) (pc := 104) X 0 (lt_ix hi2 (by decide)) (cV_aT _ hi2) rfl (by decide) hk7 ek7 d_V_fire_104 ?_
      obtain ⟨k8, hk8, ek8, hw⟩ := hw
      refine z_iald (i := 11) (pc := 105) X 0 (by decide) (cV_tNu _) rfl (by decide) hk8 ek8 d_V_fire_105 ?_
      refine z_iload (pc := 106) X 0 d_V_fire_106 rfl ?_
      obtain ⟨k9, hk9, ek9, hw⟩ := hw
      refine z_iast (i := 10) (pc := 108) X 0 (by decide) (fun g => (cV_mAn g)) rfl (by decide) hk9 ek9 d_V_fire_108 ?_
      have hw := hw _ rfl
      refine z_iinc (v := (x3 + 1)) (pc := 109) X 4 d_V_fire_109 rfl rfl (by decide) rfl ?_
      refine z_goto (tgt := 38) (pc := 112) X d_V_fire_112 (by decide) ?_
      exact z_to [2, 3, 4, 0] rfl (hK38 _ _ _ _ hi2 hw)
    · have hw := hw.2 hc
      refine z_aload_n (pc := 69) X 1 d_V_fire_69 rfl rfl ?_
      refine z_aload_n (pc := 70) X 3 d_V_fire_70 rfl rfl ?_
      refine z_getN (i := (29 + i2)) (pc := 71) X (lt_ix hi2 (by decide)) (cV_Re _ hi2) rfl hin_Re 8 (by decide) lk147 rfl rfl d_V_fire_71 ?_
      refine z_iload_n (pc := 74) X 4 d_V_fire_74 rfl rfl ?_
      obtain ⟨k11, hk11, ek11, hw⟩ := hw
      refine z_iald (i := (69 + i2)) (pc := 75) X 0 (lt_ix hi2 (by decide)) (cV_aT _ hi2) rfl (by decide) hk11 ek11 d_V_fire_75 ?_
      refine z_iload (pc := 76) X 0 d_V_fire_76 rfl ?_
      refine z_cVi (i := 0) (pc := 78) X [.int _, .int _] (c_V_makeMessage X.2.2.2.2.2.2.2.2.1 hw) (by decide) (by decide) lk75 cd_V_makeMessage lk11 lk76 lk77 (by decide) (cV_V _) rfl nm_V_makeMessage rfl rfl (Nat.le_of_ble_eq_true rfl) d_V_fire_78 (fun r12 h13 hw => ?_)
      refine z_pop (pc := 81) X d_V_fire_81 rfl ?_
      refine z_goto (tgt := 109) (pc := 82) X d_V_fire_82 (by decide) ?_
      refine z_iinc (v := (x3 + 1)) (pc := 109) X 4 d_V_fire_109 rfl rfl (by decide) rfl ?_
      refine z_goto (tgt := 38) (pc := 112) X d_V_fire_112 (by decide) ?_
      exact z_to [2, 3, 4, 0] rfl (hK38 _ _ _ _ hi2 hw)
theorem kl_V_fire_38 {Q : RS → Prop} (X : Cx p l R s m args meth c b_V_fire 5 R_V none D clV (tyV q) a 101 3 67 tbW) : ∀ (n : Nat) (h : RS) (x1 : Int32) (i2 : Nat) (x3 : Int32), i2 < 8 → wp_V_fire_38 Q n h x1 i2 x3 → Z p l e R s m args below meth c D clV 101 a (ceV a q) 5 (MQ below (va_Qv Q (AtC D clV 101 a (ceV a q)) (inW a 101)) args s 0 0 (inW a 101)) h 38 [(0, .ref (a 0)), (1, .int x1), (2, .ref (a (29 + i2))), (3, .int x3)] [] := by
  intro n
  induction n with
  | zero =>
    intro h x1 i2 x3 hi2 hw
    exact hw.elim
  | succ n ih =>
    intro h x1 i2 x3 hi2 hw
    exact kb_V_fire_38 X ih hi2 hw
set_option maxHeartbeats 4000000 in
set_option maxRecDepth 100000 in
theorem kb_V_fire_9 {Q : RS → Prop} (X : Cx p l R s m args meth c b_V_fire 5 R_V none D clV (tyV q) a 101 3 67 tbW) {K9 : RS → Int32 → Nat → Int32 → Prop} (hK9 : ∀ (h : RS) (x1 : Int32) (i2 : Nat) (x3 : Int32), i2 < 8 → K9 h x1 i2 x3 → Z p l e R s m args below meth c D clV 101 a (ceV a q) 5 (MQ below (va_Qv Q (AtC D clV 101 a (ceV a q)) (inW a 101)) args s 0 0 (inW a 101)) h 9 [(0, .ref (a 0)), (1, .int x1), (2, .ref (a (29 + i2))), (3, .int x3)] []) {h : RS} {x1 : Int32} {i2 : Nat} {x3 : Int32} (hi2 : i2 < 8) (hw : bp_V_fire_9 K9 Q h x1 i2 x3) : Z p l e R s m args below meth c D clV 101 a (ceV a q) 5 (MQ below (va_Qv Q (AtC D clV 101 a (ceV a q)) (inW a 101)) args s 0 0 (inW a 101)) h 9 [(0, .ref (a 0)), (1, .int x1), (2, .ref (a (29 + i2))), (3, .int x3)] [] := by
  unfold bp_V_fire_9 at hw
  refine z_iload_n (pc := 9) X 3 d_V_fire_9 rfl rfl ?_
  refine z_aload_n (pc := 10) X 2 d_V_fire_10 rfl rfl ?_
  refine z_getN (i := (29 + i2)) (pc := 11) X (lt_ix hi2 (by decide)) (cV_Re _ hi2) rfl hin_Re 0 (by decide) lk20 rfl rfl d_V_fire_11 ?_
  refine z_icmp_ge (tgt := 36) (pc := 14) X d_V_fire_14 (by decide) (fun hc => ?_) (fun hc => ?_)
  · have hw := hw.1 hc
    refine z_iconst (v := (0 : Int32)) (pc := 36) X d_V_fire_36 (by decide) ?_
    refine z_istore_n (pc := 37) X d_V_fire_37 rfl (by decide) rfl ?_
    obtain ⟨n14, hw⟩ := hw
    exact z_to [1, 2, 3, 0] rfl (kl_V_fire_38 X n14 _ _ _ _ hi2 hw)
  · have hw := hw.2 hc
    refine z_aload_n (pc := 17) X 0 d_V_fire_17 rfl rfl ?_
    refine z_aload_n (pc := 18) X 0 d_V_fire_18 rfl rfl ?_
    refine z_get (i := 0) (pc := 19) X (by decide) (cV_V _) rfl hin_V 6 (by decide) lk128 rfl rfl d_V_fire_19 ?_
    refine z_getN (i := 4) (pc := 22) X (by decide) (cV_Mat _) rfl hin_Mt 0 (by decide) lk118 rfl rfl d_V_fire_22 ?_
    refine z_iload_n (pc := 25) X 3 d_V_fire_25 rfl rfl ?_
    obtain ⟨k15, hk15, ek15, hw⟩ := hw
    refine z_iald (i := 11) (pc := 26) X 0 (by decide) (cV_tNu _) rfl (by decide) hk15 ek15 d_V_fire_26 ?_
    refine z_cVv (i := 0) (pc := 27) X [.int _] (c_V_consume X.2.2.2.2.2.2.2.2.1 hw) (by decide) (by decide) lk148 cd_V_consume lk11 lk149 lk150 (by decide) (cV_V _) rfl nm_V_consume rfl rfl (Nat.le_of_ble_eq_true rfl) d_V_fire_27 (fun h16 hw => ?_)
    refine z_iinc (v := (x3 + 1)) (pc := 30) X 3 d_V_fire_30 rfl rfl (by decide) rfl ?_
    refine z_goto (tgt := 9) (pc := 33) X d_V_fire_33 (by decide) ?_
    exact z_to [1, 2, 3, 0] rfl (hK9 _ _ _ _ hi2 hw)
theorem kl_V_fire_9 {Q : RS → Prop} (X : Cx p l R s m args meth c b_V_fire 5 R_V none D clV (tyV q) a 101 3 67 tbW) : ∀ (n : Nat) (h : RS) (x1 : Int32) (i2 : Nat) (x3 : Int32), i2 < 8 → wp_V_fire_9 Q n h x1 i2 x3 → Z p l e R s m args below meth c D clV 101 a (ceV a q) 5 (MQ below (va_Qv Q (AtC D clV 101 a (ceV a q)) (inW a 101)) args s 0 0 (inW a 101)) h 9 [(0, .ref (a 0)), (1, .int x1), (2, .ref (a (29 + i2))), (3, .int x3)] [] := by
  intro n
  induction n with
  | zero =>
    intro h x1 i2 x3 hi2 hw
    exact hw.elim
  | succ n ih =>
    intro h x1 i2 x3 hi2 hw
    exact kb_V_fire_9 X ih hi2 hw
set_option maxHeartbeats 4000000 in
set_option maxRecDepth 100000 in
theorem kb_V_fire_0 {Q : RS → Prop} (X : Cx p l R s m args meth c b_V_fire 5 R_V none D clV (tyV q) a 101 3 67 tbW) {h : RS} {x1 : Int32} (hw : bp_V_fire_0 Q h x1) : Z p l e R s m args below meth c D clV 101 a (ceV a q) 5 (MQ below (va_Qv Q (AtC D clV 101 a (ceV a q)) (inW a 101)) args s 0 0 (inW a 101)) h 0 [(0, .ref (a 0)), (1, .int x1)] [] := by
  unfold bp_V_fire_0 at hw
  refine z_aload_n (pc := 0) X 0 d_V_fire_0 rfl rfl ?_
  refine z_get (i := 0) (pc := 1) X (by decide) (cV_V _) rfl hin_V 2 (by decide) lk19 rfl rfl d_V_fire_1 ?_
  refine z_iload_n (pc := 4) X 1 d_V_fire_4 rfl rfl ?_
  obtain ⟨k17, hk17, ek17, hw⟩ := hw
  refine z_aald (i := 2) (g := fun j => 29 + j) (pc := 5) X 3 (by decide) (cV_Res _) rfl (by decide) hk17 ek17 d_V_fire_5 ?_
  refine z_astore_n (pc := 6) X d_V_fire_6 rfl (by decide) rfl ?_
  refine z_iconst (v := (0 : Int32)) (pc := 7) X d_V_fire_7 (by decide) ?_
  refine z_istore_n (pc := 8) X d_V_fire_8 rfl (by decide) rfl ?_
  obtain ⟨n18, hw⟩ := hw
  exact z_to [2, 3, 1, 0] rfl (kl_V_fire_9 X n18 _ _ _ _ hk17 hw)
theorem c_V_fire {l : Launch} {D : va_G} {a : Nat → Nat} {q : Nat → ClassId} (hI : injW a 101) {h : RS} {x1 : Int32} {Q : RS → Prop} (hw : wp_V_fire h x1 Q) : Met l y_V_fire [.code y_V_fire b_V_fire 5 none] { frames := 3, cells := 0, slots := 0, locals := 67 } (va_Pc [.ref (a 0), .int x1] (PreC tbW D clV (tyV q) 101 a (ceV a q) h)) (va_Qv Q (AtC D clV 101 a (ceV a q)) (inW a 101)) 0 0 (inW a 101) :=
  m_of (by decide +kernel) hI tb_ok (Nat.le_of_ble_eq_true rfl) (fun p e R s m below meth c X => kb_V_fire_0 X hw)
set_option maxHeartbeats 4000000 in
set_option maxRecDepth 100000 in
theorem kb_V_react_19 {Q : Int32 → RS → Prop} (X : Cx p l R s m args meth c b_V_react 4 R_V (some .int) D clV (tyV q) a 101 10 257 tbW) {K19 : RS → Int32 → Int32 → Prop} (hK19 : ∀ (h : RS) (x1 : Int32) (x2 : Int32), K19 h x1 x2 → Z p l e R s m args below meth c D clV 101 a (ceV a q) 4 (MQ below (va_Qi Q (AtC D clV 101 a (ceV a q)) (inW a 101)) args s 0 0 (inW a 101)) h 19 [(0, .ref (a 0)), (1, .int x1), (2, .int x2)] []) {h : RS} {x1 : Int32} {x2 : Int32} (hw : bp_V_react_19 K19 Q h x1 x2) : Z p l e R s m args below meth c D clV 101 a (ceV a q) 4 (MQ below (va_Qi Q (AtC D clV 101 a (ceV a q)) (inW a 101)) args s 0 0 (inW a 101)) h 19 [(0, .ref (a 0)), (1, .int x1), (2, .int x2)] [] := by
  unfold bp_V_react_19 at hw
  refine z_iload_n (pc := 19) X 2 d_V_react_19 rfl rfl ?_
  refine z_iload_n (pc := 20) X 1 d_V_react_20 rfl rfl ?_
  refine z_icmp_ge (tgt := 47) (pc := 21) X d_V_react_21 (by decide) (fun hc => ?_) (fun hc => ?_)
  · have hw := hw.1 hc
    refine z_iload_n (pc := 47) X 1 d_V_react_47 rfl rfl ?_
    exact z_iret (pc := 48) X d_V_react_48 hw
  · have hw := hw.2 hc
    refine z_aload_n (pc := 24) X 0 d_V_react_24 rfl rfl ?_
    refine z_cVi (i := 0) (pc := 25) X [] (c_V_findNext X.2.2.2.2.2.2.2.2.1 hw) (by decide) (by decide) lk151 cd_V_findNext lk11 lk152 lk153 (by decide) (cV_V _) rfl nm_V_findNext rfl rfl (Nat.le_of_ble_eq_true rfl) d_V_react_25 (fun r1 h2 hw => ?_)
    refine z_istore_n (pc := 28) X d_V_react_28 rfl (by decide) rfl ?_
    refine z_iload_n (pc := 29) X 0 d_V_react_29 rfl rfl ?_
    refine z_iconst (v := (-1 : Int32)) (pc := 30) X d_V_react_30 (by decide) ?_
    refine z_icmp_ne (tgt := 36) (pc := 31) X d_V_react_31 (by decide) (fun hc => ?_) (fun hc => ?_)
    · have hw := hw.1 hc
      refine z_aload_n (pc := 36) X 1 d_V_react_36 rfl rfl ?_
      refine z_iload_n (pc := 37) X 0 d_V_react_37 rfl rfl ?_
      refine z_cVv (i := 0) (pc := 38) X [.int _] (c_V_fire X.2.2.2.2.2.2.2.2.1 hw) (by decide) (by decide) lk154 cd_V_fire lk11 lk155 lk156 (by decide) (cV_V _) rfl nm_V_fire rfl rfl (Nat.le_of_ble_eq_true rfl) d_V_react_38 (fun h3 hw => ?_)
      refine z_iinc (v := (x2 + 1)) (pc := 41) X 3 d_V_react_41 rfl rfl (by decide) rfl ?_
      refine z_goto (tgt := 19) (pc := 44) X d_V_react_44 (by decide) ?_
      exact z_to [2, 3, 0] rfl (hK19 _ _ _ hw)
    · have hw := hw.2 hc
      refine z_iload_n (pc := 34) X 3 d_V_react_34 rfl rfl ?_
      exact z_iret (pc := 35) X d_V_react_35 hw
theorem kl_V_react_19 {Q : Int32 → RS → Prop} (X : Cx p l R s m args meth c b_V_react 4 R_V (some .int) D clV (tyV q) a 101 10 257 tbW) : ∀ (n : Nat) (h : RS) (x1 : Int32) (x2 : Int32), wp_V_react_19 Q n h x1 x2 → Z p l e R s m args below meth c D clV 101 a (ceV a q) 4 (MQ below (va_Qi Q (AtC D clV 101 a (ceV a q)) (inW a 101)) args s 0 0 (inW a 101)) h 19 [(0, .ref (a 0)), (1, .int x1), (2, .int x2)] [] := by
  intro n
  induction n with
  | zero =>
    intro h x1 x2 hw
    exact hw.elim
  | succ n ih =>
    intro h x1 x2 hw
    exact kb_V_react_19 X ih hw
set_option maxHeartbeats 4000000 in
set_option maxRecDepth 100000 in
theorem kb_V_react_0 {Q : Int32 → RS → Prop} (X : Cx p l R s m args meth c b_V_react 4 R_V (some .int) D clV (tyV q) a 101 10 257 tbW) {h : RS} {x1 : Int32} (hw : bp_V_react_0 Q h x1) : Z p l e R s m args below meth c D clV 101 a (ceV a q) 4 (MQ below (va_Qi Q (AtC D clV 101 a (ceV a q)) (inW a 101)) args s 0 0 (inW a 101)) h 0 [(0, .ref (a 0)), (1, .int x1)] [] := by
  unfold bp_V_react_0 at hw
  refine z_aload_n (pc := 0) X 0 d_V_react_0 rfl rfl ?_
  refine z_get (i := 0) (pc := 1) X (by decide) (cV_V _) rfl hin_V 4 (by decide) lk1 rfl rfl d_V_react_1 ?_
  refine z_if_eq (tgt := 15) (pc := 4) X d_V_react_4 (by decide) (fun hc => ?_) (fun hc => ?_)
  · have hw := hw.1 hc
    refine z_iconst (v := (-1 : Int32)) (pc := 15) X d_V_react_15 (by decide) ?_
    exact z_iret (pc := 16) X d_V_react_16 hw
  · have hw := hw.2 hc
    refine z_iload_n (pc := 7) X 1 d_V_react_7 rfl rfl ?_
    refine z_iconst (v := (5 : Int32)) (pc := 8) X d_V_react_8 (by decide) ?_
    refine z_cSi (pc := 9) X [.int _, .int _] (c_V_isWithin X.2.2.2.2.2.2.2.2.1 hw) (by decide) (by decide) lk17 cd_V_isWithin lk11 lk18 nm_V_isWithin rfl rfl (Nat.le_of_ble_eq_true rfl) d_V_react_9 (fun r4 h5 hw => ?_)
    refine z_if_ne (tgt := 17) (pc := 12) X d_V_react_12 (by decide) (fun hc => ?_) (fun hc => ?_)
    · have hw := hw.1 hc
      refine z_iconst (v := (0 : Int32)) (pc := 17) X d_V_react_17 (by decide) ?_
      refine z_istore_n (pc := 18) X d_V_react_18 rfl (by decide) rfl ?_
      obtain ⟨n6, hw⟩ := hw
      exact z_to [1, 2, 0] rfl (kl_V_react_19 X n6 _ _ _ hw)
    · have hw := hw.2 hc
      refine z_iconst (v := (-1 : Int32)) (pc := 15) X d_V_react_15 (by decide) ?_
      exact z_iret (pc := 16) X d_V_react_16 hw
theorem c_V_react {l : Launch} {D : va_G} {a : Nat → Nat} {q : Nat → ClassId} (hI : injW a 101) {h : RS} {x1 : Int32} {Q : Int32 → RS → Prop} (hw : wp_V_react h x1 Q) : Met l y_V_react [.code y_V_react b_V_react 4 (some .int)] { frames := 10, cells := 0, slots := 0, locals := 257 } (va_Pc [.ref (a 0), .int x1] (PreC tbW D clV (tyV q) 101 a (ceV a q) h)) (va_Qi Q (AtC D clV 101 a (ceV a q)) (inW a 101)) 0 0 (inW a 101) :=
  m_of (by decide +kernel) hI tb_ok (Nat.le_of_ble_eq_true rfl) (fun p e R s m below meth c X => kb_V_react_0 X hw)
set_option maxHeartbeats 4000000 in
set_option maxRecDepth 100000 in
theorem kb_V_enabled_4 {Q : Int32 → RS → Prop} (X : Cx p l R s m args meth c b_V_enabled 3 R_V (some .int) D clV (tyV q) a 101 9 234 tbW) {K4 : RS → Int32 → Int32 → Prop} (hK4 : ∀ (h : RS) (x1 : Int32) (x2 : Int32), K4 h x1 x2 → Z p l e R s m args below meth c D clV 101 a (ceV a q) 3 (MQ below (va_Qi Q (AtC D clV 101 a (ceV a q)) (inW a 101)) args s 0 0 (inW a 101)) h 4 [(0, .ref (a 0)), (1, .int x1), (2, .int x2)] []) {h : RS} {x1 : Int32} {x2 : Int32} (hw : bp_V_enabled_4 K4 Q h x1 x2) : Z p l e R s m args below meth c D clV 101 a (ceV a q) 3 (MQ below (va_Qi Q (AtC D clV 101 a (ceV a q)) (inW a 101)) args s 0 0 (inW a 101)) h 4 [(0, .ref (a 0)), (1, .int x1), (2, .int x2)] [] := by
  unfold bp_V_enabled_4 at hw
  refine z_iload_n (pc := 4) X 2 d_V_enabled_4 rfl rfl ?_
  refine z_aload_n (pc := 5) X 0 d_V_enabled_5 rfl rfl ?_
  refine z_get (i := 0) (pc := 6) X (by decide) (cV_V _) rfl hin_V 3 (by decide) lk5 rfl rfl d_V_enabled_6 ?_
  refine z_icmp_ge (tgt := 32) (pc := 9) X d_V_enabled_9 (by decide) (fun hc => ?_) (fun hc => ?_)
  · have hw := hw.1 hc
    refine z_iload_n (pc := 32) X 1 d_V_enabled_32 rfl rfl ?_
    exact z_iret (pc := 33) X d_V_enabled_33 hw
  · have hw := hw.2 hc
    refine z_aload_n (pc := 12) X 0 d_V_enabled_12 rfl rfl ?_
    refine z_iload_n (pc := 13) X 2 d_V_enabled_13 rfl rfl ?_
    refine z_cVi (i := 0) (pc := 14) X [.int _] (c_V_findEnabledMatch X.2.2.2.2.2.2.2.2.1 hw) (by decide) (by decide) lk129 cd_V_findEnabledMatch lk11 lk130 lk131 (by decide) (cV_V _) rfl nm_V_findEnabledMatch rfl rfl (Nat.le_of_ble_eq_true rfl) d_V_enabled_14 (fun r1 h2 hw => ?_)
    refine z_if_eq (tgt := 26) (pc := 17) X d_V_enabled_17 (by decide) (fun hc => ?_) (fun hc => ?_)
    · have hw := hw.1 hc
      refine z_iinc (v := (x2 + 1)) (pc := 26) X 2 d_V_enabled_26 rfl rfl (by decide) rfl ?_
      refine z_goto (tgt := 4) (pc := 29) X d_V_enabled_29 (by decide) ?_
      exact z_to [1, 2, 0] rfl (hK4 _ _ _ hw)
    · have hw := hw.2 hc
      refine z_iload_n (pc := 20) X 1 d_V_enabled_20 rfl rfl ?_
      refine z_iconst (v := (1 : Int32)) (pc := 21) X d_V_enabled_21 (by decide) ?_
      refine z_iload_n (pc := 22) X 2 d_V_enabled_22 rfl rfl ?_
      refine z_ishl (pc := 23) X d_V_enabled_23 ?_
      refine z_ior (pc := 24) X d_V_enabled_24 ?_
      refine z_istore_n (pc := 25) X d_V_enabled_25 rfl (by decide) rfl ?_
      refine z_iinc (v := (x2 + 1)) (pc := 26) X 2 d_V_enabled_26 rfl rfl (by decide) rfl ?_
      refine z_goto (tgt := 4) (pc := 29) X d_V_enabled_29 (by decide) ?_
      exact z_to [2, 1, 0] rfl (hK4 _ _ _ hw)
theorem kl_V_enabled_4 {Q : Int32 → RS → Prop} (X : Cx p l R s m args meth c b_V_enabled 3 R_V (some .int) D clV (tyV q) a 101 9 234 tbW) : ∀ (n : Nat) (h : RS) (x1 : Int32) (x2 : Int32), wp_V_enabled_4 Q n h x1 x2 → Z p l e R s m args below meth c D clV 101 a (ceV a q) 3 (MQ below (va_Qi Q (AtC D clV 101 a (ceV a q)) (inW a 101)) args s 0 0 (inW a 101)) h 4 [(0, .ref (a 0)), (1, .int x1), (2, .int x2)] [] := by
  intro n
  induction n with
  | zero =>
    intro h x1 x2 hw
    exact hw.elim
  | succ n ih =>
    intro h x1 x2 hw
    exact kb_V_enabled_4 X ih hw
set_option maxHeartbeats 4000000 in
set_option maxRecDepth 100000 in
theorem kb_V_enabled_0 {Q : Int32 → RS → Prop} (X : Cx p l R s m args meth c b_V_enabled 3 R_V (some .int) D clV (tyV q) a 101 9 234 tbW) {h : RS} (hw : bp_V_enabled_0 Q h) : Z p l e R s m args below meth c D clV 101 a (ceV a q) 3 (MQ below (va_Qi Q (AtC D clV 101 a (ceV a q)) (inW a 101)) args s 0 0 (inW a 101)) h 0 [(0, .ref (a 0))] [] := by
  unfold bp_V_enabled_0 at hw
  refine z_iconst (v := (0 : Int32)) (pc := 0) X d_V_enabled_0 (by decide) ?_
  refine z_istore_n (pc := 1) X d_V_enabled_1 rfl (by decide) rfl ?_
  refine z_iconst (v := (0 : Int32)) (pc := 2) X d_V_enabled_2 (by decide) ?_
  refine z_istore_n (pc := 3) X d_V_enabled_3 rfl (by decide) rfl ?_
  obtain ⟨n3, hw⟩ := hw
  exact z_to [2, 1, 0] rfl (kl_V_enabled_4 X n3 _ _ _ hw)
theorem c_V_enabled {l : Launch} {D : va_G} {a : Nat → Nat} {q : Nat → ClassId} (hI : injW a 101) {h : RS} {Q : Int32 → RS → Prop} (hw : wp_V_enabled h Q) : Met l y_V_enabled [.code y_V_enabled b_V_enabled 3 (some .int)] { frames := 9, cells := 0, slots := 0, locals := 234 } (va_Pc [.ref (a 0)] (PreC tbW D clV (tyV q) 101 a (ceV a q) h)) (va_Qi Q (AtC D clV 101 a (ceV a q)) (inW a 101)) 0 0 (inW a 101) :=
  m_of (by decide +kernel) hI tb_ok (Nat.le_of_ble_eq_true rfl) (fun p e R s m below meth c X => kb_V_enabled_0 X hw)
set_option maxHeartbeats 4000000 in
set_option maxRecDepth 100000 in
theorem kb_V_next_0 {Q : Int32 → RS → Prop} (X : Cx p l R s m args meth c b_V_next 1 R_V (some .int) D clV (tyV q) a 101 10 257 tbW) {h : RS} (hw : bp_V_next_0 Q h) : Z p l e R s m args below meth c D clV 101 a (ceV a q) 1 (MQ below (va_Qi Q (AtC D clV 101 a (ceV a q)) (inW a 101)) args s 0 0 (inW a 101)) h 0 [(0, .ref (a 0))] [] := by
  unfold bp_V_next_0 at hw
  refine z_aload_n (pc := 0) X 0 d_V_next_0 rfl rfl ?_
  refine z_cVi (i := 0) (pc := 1) X [] (c_V_findNext X.2.2.2.2.2.2.2.2.1 hw) (by decide) (by decide) lk151 cd_V_findNext lk11 lk152 lk153 (by decide) (cV_V _) rfl nm_V_findNext rfl rfl (Nat.le_of_ble_eq_true rfl) d_V_next_1 (fun r1 h2 hw => ?_)
  exact z_iret (pc := 4) X d_V_next_4 hw
theorem c_V_next {l : Launch} {D : va_G} {a : Nat → Nat} {q : Nat → ClassId} (hI : injW a 101) {h : RS} {Q : Int32 → RS → Prop} (hw : wp_V_next h Q) : Met l y_V_next [.code y_V_next b_V_next 1 (some .int)] { frames := 10, cells := 0, slots := 0, locals := 257 } (va_Pc [.ref (a 0)] (PreC tbW D clV (tyV q) 101 a (ceV a q) h)) (va_Qi Q (AtC D clV 101 a (ceV a q)) (inW a 101)) 0 0 (inW a 101) :=
  m_of (by decide +kernel) hI tb_ok (Nat.le_of_ble_eq_true rfl) (fun p e R s m below meth c X => kb_V_next_0 X hw)
set_option maxHeartbeats 4000000 in
set_option maxRecDepth 100000 in
theorem kb_V_taken_0 {Q : Int32 → RS → Prop} (X : Cx p l R s m args meth c b_V_taken 3 R_V (some .int) D clV (tyV q) a 101 10 257 tbW) {h : RS} {x1 : Int32} (hw : bp_V_taken_0 Q h x1) : Z p l e R s m args below meth c D clV 101 a (ceV a q) 3 (MQ below (va_Qi Q (AtC D clV 101 a (ceV a q)) (inW a 101)) args s 0 0 (inW a 101)) h 0 [(0, .ref (a 0)), (1, .int x1)] [] := by
  unfold bp_V_taken_0 at hw
  refine z_aload_n (pc := 0) X 0 d_V_taken_0 rfl rfl ?_
  refine z_cVi (i := 0) (pc := 1) X [] (c_V_findNext X.2.2.2.2.2.2.2.2.1 hw) (by decide) (by decide) lk151 cd_V_findNext lk11 lk152 lk153 (by decide) (cV_V _) rfl nm_V_findNext rfl rfl (Nat.le_of_ble_eq_true rfl) d_V_taken_1 (fun r1 h2 hw => ?_)
  refine z_istore_n (pc := 4) X d_V_taken_4 rfl (by decide) rfl ?_
  refine z_iload_n (pc := 5) X 0 d_V_taken_5 rfl rfl ?_
  refine z_iconst (v := (-1 : Int32)) (pc := 6) X d_V_taken_6 (by decide) ?_
  refine z_icmp_eq (tgt := 23) (pc := 7) X d_V_taken_7 (by decide) (fun hc => ?_) (fun hc => ?_)
  · have hw := hw.1 hc
    refine z_iconst (v := (-1 : Int32)) (pc := 23) X d_V_taken_23 (by decide) ?_
    exact z_iret (pc := 24) X d_V_taken_24 hw
  · have hw := hw.2 hc
    refine z_aload_n (pc := 10) X 1 d_V_taken_10 rfl rfl ?_
    refine z_get (i := 0) (pc := 11) X (by decide) (cV_V _) rfl hin_V 2 (by decide) lk19 rfl rfl d_V_taken_11 ?_
    refine z_iload_n (pc := 14) X 0 d_V_taken_14 rfl rfl ?_
    obtain ⟨k3, hk3, ek3, hw⟩ := hw
    refine z_aald (i := 2) (g := fun j => 29 + j) (pc := 15) X 3 (by decide) (cV_Res _) rfl (by decide) hk3 ek3 d_V_taken_15 ?_
    refine z_iload_n (pc := 16) X 2 d_V_taken_16 rfl rfl ?_
    refine z_cVNi (i := (29 + k3)) (pc := 17) X [.int _] (c_Re_hasPart X.2.2.2.2.2.2.2.2.1 hk3 hw) (by decide) (by decide) lk46 cd_Re_hasPart lk22 lk28 lk29 (lt_ix hk3 (by decide)) (cV_Re _ hk3) rfl nm_Re_hasPart rfl rfl (Nat.le_of_ble_eq_true rfl) d_V_taken_17 (fun r4 h5 hw => ?_)
    refine z_if_ne (tgt := 25) (pc := 20) X d_V_taken_20 (by decide) (fun hc => ?_) (fun hc => ?_)
    · have hw := hw.1 hc
      refine z_aload_n (pc := 25) X 1 d_V_taken_25 rfl rfl ?_
      refine z_get (i := 0) (pc := 26) X (by decide) (cV_V _) rfl hin_V 6 (by decide) lk128 rfl rfl d_V_taken_26 ?_
      refine z_getN (i := 4) (pc := 29) X (by decide) (cV_Mat _) rfl hin_Mt 0 (by decide) lk118 rfl rfl d_V_taken_29 ?_
      refine z_iload_n (pc := 32) X 2 d_V_taken_32 rfl rfl ?_
      obtain ⟨k6, hk6, ek6, hw⟩ := hw
      refine z_iald (i := 11) (pc := 33) X 0 (by decide) (cV_tNu _) rfl (by decide) hk6 ek6 d_V_taken_33 ?_
      exact z_iret (pc := 34) X d_V_taken_34 hw
    · have hw := hw.2 hc
      refine z_iconst (v := (-1 : Int32)) (pc := 23) X d_V_taken_23 (by decide) ?_
      exact z_iret (pc := 24) X d_V_taken_24 hw
theorem c_V_taken {l : Launch} {D : va_G} {a : Nat → Nat} {q : Nat → ClassId} (hI : injW a 101) {h : RS} {x1 : Int32} {Q : Int32 → RS → Prop} (hw : wp_V_taken h x1 Q) : Met l y_V_taken [.code y_V_taken b_V_taken 3 (some .int)] { frames := 10, cells := 0, slots := 0, locals := 257 } (va_Pc [.ref (a 0), .int x1] (PreC tbW D clV (tyV q) 101 a (ceV a q) h)) (va_Qi Q (AtC D clV 101 a (ceV a q)) (inW a 101)) 0 0 (inW a 101) :=
  m_of (by decide +kernel) hI tb_ok (Nat.le_of_ble_eq_true rfl) (fun p e R s m below meth c X => kb_V_taken_0 X hw)
set_option maxHeartbeats 4000000 in
set_option maxRecDepth 100000 in
theorem kb_V_pendingAt_0 {Q : Int32 → RS → Prop} (X : Cx p l R s m args meth c b_V_pendingAt 3 R_V (some .int) D clV (tyV q) a 101 1 21 tbW) {h : RS} {x1 : Int32} {x2 : Int32} (hw : bp_V_pendingAt_0 Q h x1 x2) : Z p l e R s m args below meth c D clV 101 a (ceV a q) 3 (MQ below (va_Qi Q (AtC D clV 101 a (ceV a q)) (inW a 101)) args s 0 0 (inW a 101)) h 0 [(0, .ref (a 0)), (1, .int x1), (2, .int x2)] [] := by
  unfold bp_V_pendingAt_0 at hw
  refine z_aload_n (pc := 0) X 0 d_V_pendingAt_0 rfl rfl ?_
  refine z_iload_n (pc := 1) X 1 d_V_pendingAt_1 rfl rfl ?_
  refine z_cVi (i := 0) (pc := 2) X [.int _] (c_V_isChannel X.2.2.2.2.2.2.2.2.1 hw) (by decide) (by decide) lk14 cd_V_isChannel lk11 lk15 lk16 (by decide) (cV_V _) rfl nm_V_isChannel rfl rfl (Nat.le_of_ble_eq_true rfl) d_V_pendingAt_2 (fun r1 h2 hw => ?_)
  refine z_if_eq (tgt := 25) (pc := 5) X d_V_pendingAt_5 (by decide) (fun hc => ?_) (fun hc => ?_)
  · have hw := hw.1 hc
    refine z_iconst (v := (-1 : Int32)) (pc := 25) X d_V_pendingAt_25 (by decide) ?_
    exact z_iret (pc := 26) X d_V_pendingAt_26 hw
  · have hw := hw.2 hc
    refine z_iload_n (pc := 8) X 2 d_V_pendingAt_8 rfl rfl ?_
    refine z_if_lt (tgt := 25) (pc := 9) X d_V_pendingAt_9 (by decide) (fun hc => ?_) (fun hc => ?_)
    · have hw := hw.1 hc
      refine z_iconst (v := (-1 : Int32)) (pc := 25) X d_V_pendingAt_25 (by decide) ?_
      exact z_iret (pc := 26) X d_V_pendingAt_26 hw
    · have hw := hw.2 hc
      refine z_iload_n (pc := 12) X 2 d_V_pendingAt_12 rfl rfl ?_
      refine z_aload_n (pc := 13) X 0 d_V_pendingAt_13 rfl rfl ?_
      refine z_get (i := 0) (pc := 14) X (by decide) (cV_V _) rfl hin_V 0 (by decide) lk3 rfl rfl d_V_pendingAt_14 ?_
      refine z_iload_n (pc := 17) X 1 d_V_pendingAt_17 rfl rfl ?_
      obtain ⟨k3, hk3, ek3, hw⟩ := hw
      refine z_aald (i := 1) (g := fun j => 13 + j) (pc := 18) X 2 (by decide) (cV_Chs _) rfl (by decide) hk3 ek3 d_V_pendingAt_18 ?_
      refine z_getN (i := (13 + k3)) (pc := 19) X (lt_ix hk3 (by decide)) (cV_Ch _ hk3) rfl hin_Ch 2 (by decide) lk73 rfl rfl d_V_pendingAt_19 ?_
      refine z_icmp_lt (tgt := 27) (pc := 22) X d_V_pendingAt_22 (by decide) (fun hc => ?_) (fun hc => ?_)
      · have hw := hw.1 hc
        refine z_aload_n (pc := 27) X 0 d_V_pendingAt_27 rfl rfl ?_
        refine z_get (i := 0) (pc := 28) X (by decide) (cV_V _) rfl hin_V 0 (by decide) lk3 rfl rfl d_V_pendingAt_28 ?_
        refine z_iload_n (pc := 31) X 1 d_V_pendingAt_31 rfl rfl ?_
        obtain ⟨k4, hk4, ek4, hw⟩ := hw
        refine z_aald (i := 1) (g := fun j => 13 + j) (pc := 32) X 2 (by decide) (cV_Chs _) rfl (by decide) hk4 ek4 d_V_pendingAt_32 ?_
        refine z_getN (i := (13 + k4)) (pc := 33) X (lt_ix hk4 (by decide)) (cV_Ch _ hk4) rfl hin_Ch 1 (by decide) lk109 rfl rfl d_V_pendingAt_33 ?_
        refine z_iload_n (pc := 36) X 2 d_V_pendingAt_36 rfl rfl ?_
        obtain ⟨k5, hk5, ek5, hw⟩ := hw
        refine z_iald (i := (21 + k4)) (pc := 37) X 0 (lt_ix hk4 (by decide)) (cV_Pn _ hk4) rfl (by decide) hk5 ek5 d_V_pendingAt_37 ?_
        exact z_iret (pc := 38) X d_V_pendingAt_38 hw
      · have hw := hw.2 hc
        refine z_iconst (v := (-1 : Int32)) (pc := 25) X d_V_pendingAt_25 (by decide) ?_
        exact z_iret (pc := 26) X d_V_pendingAt_26 hw
theorem c_V_pendingAt {l : Launch} {D : va_G} {a : Nat → Nat} {q : Nat → ClassId} (hI : injW a 101) {h : RS} {x1 : Int32} {x2 : Int32} {Q : Int32 → RS → Prop} (hw : wp_V_pendingAt h x1 x2 Q) : Met l y_V_pendingAt [.code y_V_pendingAt b_V_pendingAt 3 (some .int)] { frames := 1, cells := 0, slots := 0, locals := 21 } (va_Pc [.ref (a 0), .int x1, .int x2] (PreC tbW D clV (tyV q) 101 a (ceV a q) h)) (va_Qi Q (AtC D clV 101 a (ceV a q)) (inW a 101)) 0 0 (inW a 101) :=
  m_of (by decide +kernel) hI tb_ok (Nat.le_of_ble_eq_true rfl) (fun p e R s m below meth c X => kb_V_pendingAt_0 X hw)
set_option maxHeartbeats 4000000 in
set_option maxRecDepth 100000 in
theorem kb_V_value_0 {Q : Int32 → RS → Prop} (X : Cx p l R s m args meth c b_V_value 2 R_V (some .int) D clV (tyV q) a 101 1 21 tbW) {h : RS} {x1 : Int32} (hw : bp_V_value_0 Q h x1) : Z p l e R s m args below meth c D clV 101 a (ceV a q) 2 (MQ below (va_Qi Q (AtC D clV 101 a (ceV a q)) (inW a 101)) args s 0 0 (inW a 101)) h 0 [(0, .ref (a 0)), (1, .int x1)] [] := by
  unfold bp_V_value_0 at hw
  refine z_aload_n (pc := 0) X 0 d_V_value_0 rfl rfl ?_
  refine z_get (i := 0) (pc := 1) X (by decide) (cV_V _) rfl hin_V 5 (by decide) lk64 rfl rfl d_V_value_1 ?_
  refine z_iload_n (pc := 4) X 1 d_V_value_4 rfl rfl ?_
  refine z_cVNi (i := 3) (pc := 5) X [.int _] (c_Ms_has X.2.2.2.2.2.2.2.2.1 hw) (by decide) (by decide) lk81 cd_Ms_has lk66 lk82 lk83 (by decide) (cV_Msgs _) rfl nm_Ms_has rfl rfl (Nat.le_of_ble_eq_true rfl) d_V_value_5 (fun r1 h2 hw => ?_)
  refine z_if_eq (tgt := 23) (pc := 8) X d_V_value_8 (by decide) (fun hc => ?_) (fun hc => ?_)
  · have hw := hw.1 hc
    refine z_iconst (v := (0 : Int32)) (pc := 23) X d_V_value_23 (by decide) ?_
    exact z_iret (pc := 24) X d_V_value_24 hw
  · have hw := hw.2 hc
    refine z_aload_n (pc := 11) X 0 d_V_value_11 rfl rfl ?_
    refine z_get (i := 0) (pc := 12) X (by decide) (cV_V _) rfl hin_V 5 (by decide) lk64 rfl rfl d_V_value_12 ?_
    refine z_getN (i := 3) (pc := 15) X (by decide) (cV_Msgs _) rfl hin_Ms 2 (by decide) lk110 rfl rfl d_V_value_15 ?_
    refine z_iload_n (pc := 18) X 1 d_V_value_18 rfl rfl ?_
    obtain ⟨k3, hk3, ek3, hw⟩ := hw
    refine z_iald (i := 7) (pc := 19) X 0 (by decide) (cV_mVa _) rfl (by decide) hk3 ek3 d_V_value_19 ?_
    refine z_goto (tgt := 24) (pc := 20) X d_V_value_20 (by decide) ?_
    exact z_iret (pc := 24) X d_V_value_24 hw
theorem c_V_value {l : Launch} {D : va_G} {a : Nat → Nat} {q : Nat → ClassId} (hI : injW a 101) {h : RS} {x1 : Int32} {Q : Int32 → RS → Prop} (hw : wp_V_value h x1 Q) : Met l y_V_value [.code y_V_value b_V_value 2 (some .int)] { frames := 1, cells := 0, slots := 0, locals := 21 } (va_Pc [.ref (a 0), .int x1] (PreC tbW D clV (tyV q) 101 a (ceV a q) h)) (va_Qi Q (AtC D clV 101 a (ceV a q)) (inW a 101)) 0 0 (inW a 101) :=
  m_of (by decide +kernel) hI tb_ok (Nat.le_of_ble_eq_true rfl) (fun p e R s m below meth c X => kb_V_value_0 X hw)
set_option maxHeartbeats 4000000 in
set_option maxRecDepth 100000 in
theorem kb_V_state_0 {Q : Int32 → RS → Prop} (X : Cx p l R s m args meth c b_V_state 2 R_V (some .int) D clV (tyV q) a 101 1 21 tbW) {h : RS} {x1 : Int32} (hw : bp_V_state_0 Q h x1) : Z p l e R s m args below meth c D clV 101 a (ceV a q) 2 (MQ below (va_Qi Q (AtC D clV 101 a (ceV a q)) (inW a 101)) args s 0 0 (inW a 101)) h 0 [(0, .ref (a 0)), (1, .int x1)] [] := by
  unfold bp_V_state_0 at hw
  refine z_aload_n (pc := 0) X 0 d_V_state_0 rfl rfl ?_
  refine z_get (i := 0) (pc := 1) X (by decide) (cV_V _) rfl hin_V 5 (by decide) lk64 rfl rfl d_V_state_1 ?_
  refine z_iload_n (pc := 4) X 1 d_V_state_4 rfl rfl ?_
  refine z_cVNi (i := 3) (pc := 5) X [.int _] (c_Ms_has X.2.2.2.2.2.2.2.2.1 hw) (by decide) (by decide) lk81 cd_Ms_has lk66 lk82 lk83 (by decide) (cV_Msgs _) rfl nm_Ms_has rfl rfl (Nat.le_of_ble_eq_true rfl) d_V_state_5 (fun r1 h2 hw => ?_)
  refine z_if_eq (tgt := 23) (pc := 8) X d_V_state_8 (by decide) (fun hc => ?_) (fun hc => ?_)
  · have hw := hw.1 hc
    refine z_iconst (v := (0 : Int32)) (pc := 23) X d_V_state_23 (by decide) ?_
    exact z_iret (pc := 24) X d_V_state_24 hw
  · have hw := hw.2 hc
    refine z_aload_n (pc := 11) X 0 d_V_state_11 rfl rfl ?_
    refine z_get (i := 0) (pc := 12) X (by decide) (cV_V _) rfl hin_V 5 (by decide) lk64 rfl rfl d_V_state_12 ?_
    refine z_getN (i := 3) (pc := 15) X (by decide) (cV_Msgs _) rfl hin_Ms 3 (by decide) lk84 rfl rfl d_V_state_15 ?_
    refine z_iload_n (pc := 18) X 1 d_V_state_18 rfl rfl ?_
    obtain ⟨k3, hk3, ek3, hw⟩ := hw
    refine z_iald (i := 8) (pc := 19) X 0 (by decide) (cV_mSt _) rfl (by decide) hk3 ek3 d_V_state_19 ?_
    refine z_goto (tgt := 24) (pc := 20) X d_V_state_20 (by decide) ?_
    exact z_iret (pc := 24) X d_V_state_24 hw
theorem c_V_state {l : Launch} {D : va_G} {a : Nat → Nat} {q : Nat → ClassId} (hI : injW a 101) {h : RS} {x1 : Int32} {Q : Int32 → RS → Prop} (hw : wp_V_state h x1 Q) : Met l y_V_state [.code y_V_state b_V_state 2 (some .int)] { frames := 1, cells := 0, slots := 0, locals := 21 } (va_Pc [.ref (a 0), .int x1] (PreC tbW D clV (tyV q) 101 a (ceV a q) h)) (va_Qi Q (AtC D clV 101 a (ceV a q)) (inW a 101)) 0 0 (inW a 101) :=
  m_of (by decide +kernel) hI tb_ok (Nat.le_of_ble_eq_true rfl) (fun p e R s m below meth c X => kb_V_state_0 X hw)
set_option maxHeartbeats 4000000 in
set_option maxRecDepth 100000 in
theorem kb_V_consumer_0 {Q : Int32 → RS → Prop} (X : Cx p l R s m args meth c b_V_consumer 2 R_V (some .int) D clV (tyV q) a 101 1 21 tbW) {h : RS} {x1 : Int32} (hw : bp_V_consumer_0 Q h x1) : Z p l e R s m args below meth c D clV 101 a (ceV a q) 2 (MQ below (va_Qi Q (AtC D clV 101 a (ceV a q)) (inW a 101)) args s 0 0 (inW a 101)) h 0 [(0, .ref (a 0)), (1, .int x1)] [] := by
  unfold bp_V_consumer_0 at hw
  refine z_aload_n (pc := 0) X 0 d_V_consumer_0 rfl rfl ?_
  refine z_get (i := 0) (pc := 1) X (by decide) (cV_V _) rfl hin_V 5 (by decide) lk64 rfl rfl d_V_consumer_1 ?_
  refine z_iload_n (pc := 4) X 1 d_V_consumer_4 rfl rfl ?_
  refine z_cVNi (i := 3) (pc := 5) X [.int _] (c_Ms_has X.2.2.2.2.2.2.2.2.1 hw) (by decide) (by decide) lk81 cd_Ms_has lk66 lk82 lk83 (by decide) (cV_Msgs _) rfl nm_Ms_has rfl rfl (Nat.le_of_ble_eq_true rfl) d_V_consumer_5 (fun r1 h2 hw => ?_)
  refine z_if_eq (tgt := 23) (pc := 8) X d_V_consumer_8 (by decide) (fun hc => ?_) (fun hc => ?_)
  · have hw := hw.1 hc
    refine z_iconst (v := (-1 : Int32)) (pc := 23) X d_V_consumer_23 (by decide) ?_
    exact z_iret (pc := 24) X d_V_consumer_24 hw
  · have hw := hw.2 hc
    refine z_aload_n (pc := 11) X 0 d_V_consumer_11 rfl rfl ?_
    refine z_get (i := 0) (pc := 12) X (by decide) (cV_V _) rfl hin_V 5 (by decide) lk64 rfl rfl d_V_consumer_12 ?_
    refine z_getN (i := 3) (pc := 15) X (by decide) (cV_Msgs _) rfl hin_Ms 4 (by decide) lk134 rfl rfl d_V_consumer_15 ?_
    refine z_iload_n (pc := 18) X 1 d_V_consumer_18 rfl rfl ?_
    obtain ⟨k3, hk3, ek3, hw⟩ := hw
    refine z_iald (i := 9) (pc := 19) X 0 (by decide) (cV_mCo _) rfl (by decide) hk3 ek3 d_V_consumer_19 ?_
    refine z_goto (tgt := 24) (pc := 20) X d_V_consumer_20 (by decide) ?_
    exact z_iret (pc := 24) X d_V_consumer_24 hw
theorem c_V_consumer {l : Launch} {D : va_G} {a : Nat → Nat} {q : Nat → ClassId} (hI : injW a 101) {h : RS} {x1 : Int32} {Q : Int32 → RS → Prop} (hw : wp_V_consumer h x1 Q) : Met l y_V_consumer [.code y_V_consumer b_V_consumer 2 (some .int)] { frames := 1, cells := 0, slots := 0, locals := 21 } (va_Pc [.ref (a 0), .int x1] (PreC tbW D clV (tyV q) 101 a (ceV a q) h)) (va_Qi Q (AtC D clV 101 a (ceV a q)) (inW a 101)) 0 0 (inW a 101) :=
  m_of (by decide +kernel) hI tb_ok (Nat.le_of_ble_eq_true rfl) (fun p e R s m below meth c X => kb_V_consumer_0 X hw)
set_option maxHeartbeats 4000000 in
set_option maxRecDepth 100000 in
theorem kb_V_answer_0 {Q : Int32 → RS → Prop} (X : Cx p l R s m args meth c b_V_answer 2 R_V (some .int) D clV (tyV q) a 101 1 21 tbW) {h : RS} {x1 : Int32} (hw : bp_V_answer_0 Q h x1) : Z p l e R s m args below meth c D clV 101 a (ceV a q) 2 (MQ below (va_Qi Q (AtC D clV 101 a (ceV a q)) (inW a 101)) args s 0 0 (inW a 101)) h 0 [(0, .ref (a 0)), (1, .int x1)] [] := by
  unfold bp_V_answer_0 at hw
  refine z_aload_n (pc := 0) X 0 d_V_answer_0 rfl rfl ?_
  refine z_get (i := 0) (pc := 1) X (by decide) (cV_V _) rfl hin_V 5 (by decide) lk64 rfl rfl d_V_answer_1 ?_
  refine z_iload_n (pc := 4) X 1 d_V_answer_4 rfl rfl ?_
  refine z_cVNi (i := 3) (pc := 5) X [.int _] (c_Ms_has X.2.2.2.2.2.2.2.2.1 hw) (by decide) (by decide) lk81 cd_Ms_has lk66 lk82 lk83 (by decide) (cV_Msgs _) rfl nm_Ms_has rfl rfl (Nat.le_of_ble_eq_true rfl) d_V_answer_5 (fun r1 h2 hw => ?_)
  refine z_if_eq (tgt := 23) (pc := 8) X d_V_answer_8 (by decide) (fun hc => ?_) (fun hc => ?_)
  · have hw := hw.1 hc
    refine z_iconst (v := (0 : Int32)) (pc := 23) X d_V_answer_23 (by decide) ?_
    exact z_iret (pc := 24) X d_V_answer_24 hw
  · have hw := hw.2 hc
    refine z_aload_n (pc := 11) X 0 d_V_answer_11 rfl rfl ?_
    refine z_get (i := 0) (pc := 12) X (by decide) (cV_V _) rfl hin_V 5 (by decide) lk64 rfl rfl d_V_answer_12 ?_
    refine z_getN (i := 3) (pc := 15) X (by decide) (cV_Msgs _) rfl hin_Ms 5 (by decide) lk146 rfl rfl d_V_answer_15 ?_
    refine z_iload_n (pc := 18) X 1 d_V_answer_18 rfl rfl ?_
    obtain ⟨k3, hk3, ek3, hw⟩ := hw
    refine z_iald (i := 10) (pc := 19) X 0 (by decide) (cV_mAn _) rfl (by decide) hk3 ek3 d_V_answer_19 ?_
    refine z_goto (tgt := 24) (pc := 20) X d_V_answer_20 (by decide) ?_
    exact z_iret (pc := 24) X d_V_answer_24 hw
theorem c_V_answer {l : Launch} {D : va_G} {a : Nat → Nat} {q : Nat → ClassId} (hI : injW a 101) {h : RS} {x1 : Int32} {Q : Int32 → RS → Prop} (hw : wp_V_answer h x1 Q) : Met l y_V_answer [.code y_V_answer b_V_answer 2 (some .int)] { frames := 1, cells := 0, slots := 0, locals := 21 } (va_Pc [.ref (a 0), .int x1] (PreC tbW D clV (tyV q) 101 a (ceV a q) h)) (va_Qi Q (AtC D clV 101 a (ceV a q)) (inW a 101)) 0 0 (inW a 101) :=
  m_of (by decide +kernel) hI tb_ok (Nat.le_of_ble_eq_true rfl) (fun p e R s m below meth c X => kb_V_answer_0 X hw)
set_option maxHeartbeats 4000000 in
set_option maxRecDepth 100000 in
theorem kb_V_fired_0 {Q : Int32 → RS → Prop} (X : Cx p l R s m args meth c b_V_fired 2 R_V (some .int) D clV (tyV q) a 101 0 0 tbW) {h : RS} {x1 : Int32} (hw : bp_V_fired_0 Q h x1) : Z p l e R s m args below meth c D clV 101 a (ceV a q) 2 (MQ below (va_Qi Q (AtC D clV 101 a (ceV a q)) (inW a 101)) args s 0 0 (inW a 101)) h 0 [(0, .ref (a 0)), (1, .int x1)] [] := by
  unfold bp_V_fired_0 at hw
  refine z_iload_n (pc := 0) X 1 d_V_fired_0 rfl rfl ?_
  refine z_if_lt (tgt := 21) (pc := 1) X d_V_fired_1 (by decide) (fun hc => ?_) (fun hc => ?_)
  · have hw := hw.1 hc
    refine z_iconst (v := (-1 : Int32)) (pc := 21) X d_V_fired_21 (by decide) ?_
    exact z_iret (pc := 22) X d_V_fired_22 hw
  · have hw := hw.2 hc
    refine z_iload_n (pc := 4) X 1 d_V_fired_4 rfl rfl ?_
    refine z_aload_n (pc := 5) X 0 d_V_fired_5 rfl rfl ?_
    refine z_get (i := 0) (pc := 6) X (by decide) (cV_V _) rfl hin_V 8 (by decide) lk132 rfl rfl d_V_fired_6 ?_
    refine z_icmp_ge (tgt := 21) (pc := 9) X d_V_fired_9 (by decide) (fun hc => ?_) (fun hc => ?_)
    · have hw := hw.1 hc
      refine z_iconst (v := (-1 : Int32)) (pc := 21) X d_V_fired_21 (by decide) ?_
      exact z_iret (pc := 22) X d_V_fired_22 hw
    · have hw := hw.2 hc
      refine z_aload_n (pc := 12) X 0 d_V_fired_12 rfl rfl ?_
      refine z_get (i := 0) (pc := 13) X (by decide) (cV_V _) rfl hin_V 7 (by decide) lk133 rfl rfl d_V_fired_13 ?_
      refine z_iload_n (pc := 16) X 1 d_V_fired_16 rfl rfl ?_
      obtain ⟨k1, hk1, ek1, hw⟩ := hw
      refine z_iald (i := 5) (pc := 17) X 0 (by decide) (cV_Fir _) rfl (by decide) hk1 ek1 d_V_fired_17 ?_
      refine z_goto (tgt := 22) (pc := 18) X d_V_fired_18 (by decide) ?_
      exact z_iret (pc := 22) X d_V_fired_22 hw
theorem c_V_fired {l : Launch} {D : va_G} {a : Nat → Nat} {q : Nat → ClassId} (hI : injW a 101) {h : RS} {x1 : Int32} {Q : Int32 → RS → Prop} (hw : wp_V_fired h x1 Q) : Met l y_V_fired [.code y_V_fired b_V_fired 2 (some .int)] { frames := 0, cells := 0, slots := 0, locals := 0 } (va_Pc [.ref (a 0), .int x1] (PreC tbW D clV (tyV q) 101 a (ceV a q) h)) (va_Qi Q (AtC D clV 101 a (ceV a q)) (inW a 101)) 0 0 (inW a 101) :=
  m_of (by decide +kernel) hI tb_ok (Nat.le_of_ble_eq_true rfl) (fun p e R s m below meth c X => kb_V_fired_0 X hw)
end
