section
variable {p : Program} {l : Launch} {e : Env} {R : Room} {s : State} {m : MethodId} {args : Array Value} {below : List Frame} {meth : Method} {c : Code} {D : va_G} {a : Nat → Nat} {q : Nat → ClassId}
set_option maxHeartbeats 4000000 in
set_option maxRecDepth 100000 in
theorem kb_M_chosen_0 {Q : Int32 → RS → Prop} (X : Cx p l R s m args meth c b_M_chosen 3 R_M (some .int) D clM (tyM q) a 24 0 0 tbW) {h : RS} {x1 : Int32} {x2 : Int32} (hw : bp_M_chosen_0 Q h x1 x2) : Z p l e R s m args below meth c D clM 24 a (ceM a q) 3 (MQ below (va_Qi Q (AtC D clM 24 a (ceM a q)) (inW a 24)) args s 0 0 (inW a 24)) h 0 [(0, .ref (a 0)), (1, .int x1), (2, .int x2)] [] := by
  unfold bp_M_chosen_0 at hw
  refine z_aload_n (pc := 0) X 0 d_M_chosen_0 rfl rfl ?_
  refine z_get (i := 0) (pc := 1) X (by decide) (cM_M _) rfl hin_M 24 (by decide) lk197 rfl rfl d_M_chosen_1 ?_
  refine z_bipush (v := (6 : Int32)) (pc := 4) X d_M_chosen_4 (by decide) ?_
  refine z_aload_n (pc := 6) X 0 d_M_chosen_6 rfl rfl ?_
  refine z_get (i := 0) (pc := 7) X (by decide) (cM_M _) rfl hin_M 4 (by decide) lk169 rfl rfl d_M_chosen_7 ?_
  refine z_iconst (v := (4 : Int32)) (pc := 10) X d_M_chosen_10 (by decide) ?_
  refine z_iload_n (pc := 11) X 1 d_M_chosen_11 rfl rfl ?_
  refine z_imul (pc := 12) X d_M_chosen_12 ?_
  refine z_iload_n (pc := 13) X 2 d_M_chosen_13 rfl rfl ?_
  refine z_iadd (pc := 14) X d_M_chosen_14 ?_
  obtain ⟨k1, hk1, ek1, hw⟩ := hw
  refine z_iald (i := 3) (pc := 15) X 0 (by decide) (cM__partChannel _) rfl (by decide) hk1 ek1 d_M_chosen_15 ?_
  refine z_imul (pc := 16) X d_M_chosen_16 ?_
  refine z_aload_n (pc := 17) X 0 d_M_chosen_17 rfl rfl ?_
  refine z_get (i := 0) (pc := 18) X (by decide) (cM_M _) rfl hin_M 26 (by decide) lk212 rfl rfl d_M_chosen_18 ?_
  refine z_iload_n (pc := 21) X 2 d_M_chosen_21 rfl rfl ?_
  obtain ⟨k2, hk2, ek2, hw⟩ := hw
  refine z_iald (i := 22) (pc := 22) X 0 (by decide) (cM__digit _) rfl (by decide) hk2 ek2 d_M_chosen_22 ?_
  refine z_iadd (pc := 23) X d_M_chosen_23 ?_
  obtain ⟨k3, hk3, ek3, hw⟩ := hw
  refine z_iald (i := 20) (pc := 24) X 0 (by decide) (cM__gathered _) rfl (by decide) hk3 ek3 d_M_chosen_24 ?_
  exact z_iret (pc := 25) X d_M_chosen_25 hw
theorem c_M_chosen {l : Launch} {D : va_G} {a : Nat → Nat} {q : Nat → ClassId} (hI : injW a 24) {h : RS} {x1 : Int32} {x2 : Int32} {Q : Int32 → RS → Prop} (hw : wp_M_chosen h x1 x2 Q) : Met l y_M_chosen [.code y_M_chosen b_M_chosen 3 (some .int)] { frames := 0, cells := 0, slots := 0, locals := 0 } (va_Pc [.ref (a 0), .int x1, .int x2] (PreC tbW D clM (tyM q) 24 a (ceM a q) h)) (va_Qi Q (AtC D clM 24 a (ceM a q)) (inW a 24)) 0 0 (inW a 24) :=
  m_of (by decide +kernel) hI tb_ok (Nat.le_of_ble_eq_true rfl) (fun p e R s m below meth c X => kb_M_chosen_0 X hw)
set_option maxHeartbeats 4000000 in
set_option maxRecDepth 100000 in
theorem kb_M_matches_93 {Q : Int32 → RS → Prop} (X : Cx p l R s m args meth c b_M_matches 6 R_M (some .boolean) D clM (tyM q) a 24 1 30 tbW) {K4 : RS → Int32 → Int32 → Int32 → Prop} (hK4 : ∀ (h : RS) (x1 : Int32) (x2 : Int32) (x3 : Int32), K4 h x1 x2 x3 → Z p l e R s m args below meth c D clM 24 a (ceM a q) 6 (MQ below (va_Qi Q (AtC D clM 24 a (ceM a q)) (inW a 24)) args s 0 0 (inW a 24)) h 4 [(0, .ref (a 0)), (1, .int x1), (2, .int x2), (3, .int x3)] []) {K67 : RS → Int32 → Int32 → Int32 → Int32 → Int32 → Prop} (hK67 : ∀ (h : RS) (x1 : Int32) (x2 : Int32) (x3 : Int32) (x4 : Int32) (x5 : Int32), K67 h x1 x2 x3 x4 x5 → Z p l e R s m args below meth c D clM 24 a (ceM a q) 6 (MQ below (va_Qi Q (AtC D clM 24 a (ceM a q)) (inW a 24)) args s 0 0 (inW a 24)) h 67 [(0, .ref (a 0)), (1, .int x1), (2, .int x2), (3, .int x3), (4, .int x4), (5, .int x5)] []) {h : RS} {x1 : Int32} {x3 : Int32} {x4 : Int32} {x5 : Int32} (hw : bp_M_matches_93 K4 K67 Q h x1 x3 x4 x5) : Z p l e R s m args below meth c D clM 24 a (ceM a q) 6 (MQ below (va_Qi Q (AtC D clM 24 a (ceM a q)) (inW a 24)) args s 0 0 (inW a 24)) h 93 [(0, .ref (a 0)), (1, .int x1), (3, .int x3), (4, .int x4), (5, .int x5)] [] := by
  unfold bp_M_matches_93 at hw
  refine z_iconst (v := (0 : Int32)) (pc := 93) X d_M_matches_93 (by decide) ?_
  refine z_istore_n (pc := 94) X d_M_matches_94 rfl (by decide) rfl ?_
  refine z_iinc (v := (x5 + 1)) (pc := 95) X 5 d_M_matches_95 rfl rfl (by decide) rfl ?_
  refine z_goto (tgt := 67) (pc := 98) X d_M_matches_98 (by decide) ?_
  exact z_to [2, 3, 1, 4, 5, 0] rfl (hK67 _ _ _ _ _ _ hw)
set_option maxHeartbeats 4000000 in
set_option maxRecDepth 100000 in
theorem kb_M_matches_67 {Q : Int32 → RS → Prop} (X : Cx p l R s m args meth c b_M_matches 6 R_M (some .boolean) D clM (tyM q) a 24 1 30 tbW) {K4 : RS → Int32 → Int32 → Int32 → Prop} (hK4 : ∀ (h : RS) (x1 : Int32) (x2 : Int32) (x3 : Int32), K4 h x1 x2 x3 → Z p l e R s m args below meth c D clM 24 a (ceM a q) 6 (MQ below (va_Qi Q (AtC D clM 24 a (ceM a q)) (inW a 24)) args s 0 0 (inW a 24)) h 4 [(0, .ref (a 0)), (1, .int x1), (2, .int x2), (3, .int x3)] []) {K67 : RS → Int32 → Int32 → Int32 → Int32 → Int32 → Prop} (hK67 : ∀ (h : RS) (x1 : Int32) (x2 : Int32) (x3 : Int32) (x4 : Int32) (x5 : Int32), K67 h x1 x2 x3 x4 x5 → Z p l e R s m args below meth c D clM 24 a (ceM a q) 6 (MQ below (va_Qi Q (AtC D clM 24 a (ceM a q)) (inW a 24)) args s 0 0 (inW a 24)) h 67 [(0, .ref (a 0)), (1, .int x1), (2, .int x2), (3, .int x3), (4, .int x4), (5, .int x5)] []) {h : RS} {x1 : Int32} {x2 : Int32} {x3 : Int32} {x4 : Int32} {x5 : Int32} (hw : bp_M_matches_67 K4 K67 Q h x1 x2 x3 x4 x5) : Z p l e R s m args below meth c D clM 24 a (ceM a q) 6 (MQ below (va_Qi Q (AtC D clM 24 a (ceM a q)) (inW a 24)) args s 0 0 (inW a 24)) h 67 [(0, .ref (a 0)), (1, .int x1), (2, .int x2), (3, .int x3), (4, .int x4), (5, .int x5)] [] := by
  unfold bp_M_matches_67 at hw
  refine z_iload (pc := 67) X 5 d_M_matches_67 rfl ?_
  refine z_iload_n (pc := 69) X 3 d_M_matches_69 rfl rfl ?_
  refine z_icmp_ge (tgt := 101) (pc := 70) X d_M_matches_70 (by decide) (fun hc => ?_) (fun hc => ?_)
  · have hw := hw.1 hc
    refine z_iinc (v := (x3 + 1)) (pc := 101) X 3 d_M_matches_101 rfl rfl (by decide) rfl ?_
    refine z_goto (tgt := 4) (pc := 104) X d_M_matches_104 (by decide) ?_
    exact z_to [1, 2, 3, 0] rfl (hK4 _ _ _ _ hw)
  · have hw := hw.2 hc
    refine z_iload_n (pc := 73) X 2 d_M_matches_73 rfl rfl ?_
    refine z_if_eq (tgt := 93) (pc := 74) X d_M_matches_74 (by decide) (fun hc => ?_) (fun hc => ?_)
    · have hw := hw.1 hc
      exact z_to [0, 1, 3, 4, 5] rfl (kb_M_matches_93 X hK4 hK67 hw)
    · have hw := hw.2 hc
      refine z_aload_n (pc := 77) X 0 d_M_matches_77 rfl rfl ?_
      refine z_iload_n (pc := 78) X 1 d_M_matches_78 rfl rfl ?_
      refine z_iload (pc := 79) X 5 d_M_matches_79 rfl ?_
      refine z_cVi (i := 0) (pc := 81) X [.int _, .int _] (c_M_chosen X.2.2.2.2.2.2.2.2.1 hw) (by decide) (by decide) lk213 cd_M_chosen lk163 lk214 lk215 (by decide) (cM_M _) rfl nm_M_chosen rfl rfl (Nat.le_of_ble_eq_true rfl) d_M_matches_81 (fun r1 h2 hw => ?_)
      refine z_iload (pc := 84) X 4 d_M_matches_84 rfl ?_
      refine z_icmp_eq (tgt := 93) (pc := 86) X d_M_matches_86 (by decide) (fun hc => ?_) (fun hc => ?_)
      · have hw := hw.1 hc
        exact z_to [0, 1, 3, 4, 5] rfl (kb_M_matches_93 X hK4 hK67 hw)
      · have hw := hw.2 hc
        refine z_iconst (v := (1 : Int32)) (pc := 89) X d_M_matches_89 (by decide) ?_
        refine z_goto (tgt := 94) (pc := 90) X d_M_matches_90 (by decide) ?_
        refine z_istore_n (pc := 94) X d_M_matches_94 rfl (by decide) rfl ?_
        refine z_iinc (v := (x5 + 1)) (pc := 95) X 5 d_M_matches_95 rfl rfl (by decide) rfl ?_
        refine z_goto (tgt := 67) (pc := 98) X d_M_matches_98 (by decide) ?_
        exact z_to [2, 3, 1, 4, 5, 0] rfl (hK67 _ _ _ _ _ _ hw)
theorem kl_M_matches_67 {Q : Int32 → RS → Prop} (X : Cx p l R s m args meth c b_M_matches 6 R_M (some .boolean) D clM (tyM q) a 24 1 30 tbW) {K4 : RS → Int32 → Int32 → Int32 → Prop} (hK4 : ∀ (h : RS) (x1 : Int32) (x2 : Int32) (x3 : Int32), K4 h x1 x2 x3 → Z p l e R s m args below meth c D clM 24 a (ceM a q) 6 (MQ below (va_Qi Q (AtC D clM 24 a (ceM a q)) (inW a 24)) args s 0 0 (inW a 24)) h 4 [(0, .ref (a 0)), (1, .int x1), (2, .int x2), (3, .int x3)] []) : ∀ (n : Nat) (h : RS) (x1 : Int32) (x2 : Int32) (x3 : Int32) (x4 : Int32) (x5 : Int32), wp_M_matches_67 K4 Q n h x1 x2 x3 x4 x5 → Z p l e R s m args below meth c D clM 24 a (ceM a q) 6 (MQ below (va_Qi Q (AtC D clM 24 a (ceM a q)) (inW a 24)) args s 0 0 (inW a 24)) h 67 [(0, .ref (a 0)), (1, .int x1), (2, .int x2), (3, .int x3), (4, .int x4), (5, .int x5)] [] := by
  intro n
  induction n with
  | zero =>
    intro h x1 x2 x3 x4 x5 hw
    exact hw.elim
  | succ n ih =>
    intro h x1 x2 x3 x4 x5 hw
    exact kb_M_matches_67 X hK4 ih hw
set_option maxHeartbeats 4000000 in
set_option maxRecDepth 100000 in
theorem kb_M_matches_63 {Q : Int32 → RS → Prop} (X : Cx p l R s m args meth c b_M_matches 6 R_M (some .boolean) D clM (tyM q) a 24 1 30 tbW) {K4 : RS → Int32 → Int32 → Int32 → Prop} (hK4 : ∀ (h : RS) (x1 : Int32) (x2 : Int32) (x3 : Int32), K4 h x1 x2 x3 → Z p l e R s m args below meth c D clM 24 a (ceM a q) 6 (MQ below (va_Qi Q (AtC D clM 24 a (ceM a q)) (inW a 24)) args s 0 0 (inW a 24)) h 4 [(0, .ref (a 0)), (1, .int x1), (2, .int x2), (3, .int x3)] []) {h : RS} {x1 : Int32} {x3 : Int32} {x4 : Int32} {y0 : Int32} (hw : bp_M_matches_63 K4 Q h x1 x3 x4 y0) : Z p l e R s m args below meth c D clM 24 a (ceM a q) 6 (MQ below (va_Qi Q (AtC D clM 24 a (ceM a q)) (inW a 24)) args s 0 0 (inW a 24)) h 63 [(0, .ref (a 0)), (1, .int x1), (3, .int x3), (4, .int x4)] [.int y0] := by
  unfold bp_M_matches_63 at hw
  refine z_istore_n (pc := 63) X d_M_matches_63 rfl (by decide) rfl ?_
  refine z_iconst (v := (0 : Int32)) (pc := 64) X d_M_matches_64 (by decide) ?_
  refine z_istore (pc := 65) X d_M_matches_65 (by decide) rfl ?_
  obtain ⟨n3, hw⟩ := hw
  exact z_to [2, 3, 1, 4, 5, 0] rfl (kl_M_matches_67 X hK4 n3 _ _ _ _ _ _ hw)
set_option maxHeartbeats 4000000 in
set_option maxRecDepth 100000 in
theorem kb_M_matches_62 {Q : Int32 → RS → Prop} (X : Cx p l R s m args meth c b_M_matches 6 R_M (some .boolean) D clM (tyM q) a 24 1 30 tbW) {K4 : RS → Int32 → Int32 → Int32 → Prop} (hK4 : ∀ (h : RS) (x1 : Int32) (x2 : Int32) (x3 : Int32), K4 h x1 x2 x3 → Z p l e R s m args below meth c D clM 24 a (ceM a q) 6 (MQ below (va_Qi Q (AtC D clM 24 a (ceM a q)) (inW a 24)) args s 0 0 (inW a 24)) h 4 [(0, .ref (a 0)), (1, .int x1), (2, .int x2), (3, .int x3)] []) {h : RS} {x1 : Int32} {x3 : Int32} {x4 : Int32} (hw : bp_M_matches_62 K4 Q h x1 x3 x4) : Z p l e R s m args below meth c D clM 24 a (ceM a q) 6 (MQ below (va_Qi Q (AtC D clM 24 a (ceM a q)) (inW a 24)) args s 0 0 (inW a 24)) h 62 [(0, .ref (a 0)), (1, .int x1), (3, .int x3), (4, .int x4)] [] := by
  unfold bp_M_matches_62 at hw
  refine z_iconst (v := (0 : Int32)) (pc := 62) X d_M_matches_62 (by decide) ?_
  exact z_to [0, 1, 2, 3] rfl (kb_M_matches_63 X hK4 hw)
set_option maxHeartbeats 4000000 in
set_option maxRecDepth 100000 in
theorem kb_M_matches_4 {Q : Int32 → RS → Prop} (X : Cx p l R s m args meth c b_M_matches 6 R_M (some .boolean) D clM (tyM q) a 24 1 30 tbW) {K4 : RS → Int32 → Int32 → Int32 → Prop} (hK4 : ∀ (h : RS) (x1 : Int32) (x2 : Int32) (x3 : Int32), K4 h x1 x2 x3 → Z p l e R s m args below meth c D clM 24 a (ceM a q) 6 (MQ below (va_Qi Q (AtC D clM 24 a (ceM a q)) (inW a 24)) args s 0 0 (inW a 24)) h 4 [(0, .ref (a 0)), (1, .int x1), (2, .int x2), (3, .int x3)] []) {h : RS} {x1 : Int32} {x2 : Int32} {x3 : Int32} (hw : bp_M_matches_4 K4 Q h x1 x2 x3) : Z p l e R s m args below meth c D clM 24 a (ceM a q) 6 (MQ below (va_Qi Q (AtC D clM 24 a (ceM a q)) (inW a 24)) args s 0 0 (inW a 24)) h 4 [(0, .ref (a 0)), (1, .int x1), (2, .int x2), (3, .int x3)] [] := by
  unfold bp_M_matches_4 at hw
  refine z_iload_n (pc := 4) X 3 d_M_matches_4 rfl rfl ?_
  refine z_aload_n (pc := 5) X 0 d_M_matches_5 rfl rfl ?_
  refine z_get (i := 0) (pc := 6) X (by decide) (cM_M _) rfl hin_M 3 (by decide) lk161 rfl rfl d_M_matches_6 ?_
  refine z_iload_n (pc := 9) X 1 d_M_matches_9 rfl rfl ?_
  obtain ⟨k4, hk4, ek4, hw⟩ := hw
  refine z_iald (i := 2) (pc := 10) X 0 (by decide) (cM__parts _) rfl (by decide) hk4 ek4 d_M_matches_10 ?_
  refine z_icmp_ge (tgt := 107) (pc := 11) X d_M_matches_11 (by decide) (fun hc => ?_) (fun hc => ?_)
  · have hw := hw.1 hc
    refine z_iload_n (pc := 107) X 2 d_M_matches_107 rfl rfl ?_
    refine z_if_eq (tgt := 123) (pc := 108) X d_M_matches_108 (by decide) (fun hc => ?_) (fun hc => ?_)
    · have hw := hw.1 hc
      refine z_iconst (v := (0 : Int32)) (pc := 123) X d_M_matches_123 (by decide) ?_
      exact z_zret (pc := 124) X hw.1 d_M_matches_124 hw.2
    · have hw := hw.2 hc
      refine z_aload_n (pc := 111) X 0 d_M_matches_111 rfl rfl ?_
      refine z_iload_n (pc := 112) X 1 d_M_matches_112 rfl rfl ?_
      refine z_cVi (i := 0) (pc := 113) X [.int _] (c_M_guarded X.2.2.2.2.2.2.2.2.1 hw) (by decide) (by decide) lk216 cd_M_guarded lk163 lk217 lk218 (by decide) (cM_M _) rfl nm_M_guarded rfl rfl (Nat.le_of_ble_eq_true rfl) d_M_matches_113 (fun r5 h6 hw => ?_)
      refine z_if_eq (tgt := 123) (pc := 116) X d_M_matches_116 (by decide) (fun hc => ?_) (fun hc => ?_)
      · have hw := hw.1 hc
        refine z_iconst (v := (0 : Int32)) (pc := 123) X d_M_matches_123 (by decide) ?_
        exact z_zret (pc := 124) X hw.1 d_M_matches_124 hw.2
      · have hw := hw.2 hc
        refine z_iconst (v := (1 : Int32)) (pc := 119) X d_M_matches_119 (by decide) ?_
        refine z_goto (tgt := 124) (pc := 120) X d_M_matches_120 (by decide) ?_
        exact z_zret (pc := 124) X hw.1 d_M_matches_124 hw.2
  · have hw := hw.2 hc
    refine z_aload_n (pc := 14) X 0 d_M_matches_14 rfl rfl ?_
    refine z_iload_n (pc := 15) X 1 d_M_matches_15 rfl rfl ?_
    refine z_iload_n (pc := 16) X 3 d_M_matches_16 rfl rfl ?_
    refine z_cVi (i := 0) (pc := 17) X [.int _, .int _] (c_M_chosen X.2.2.2.2.2.2.2.2.1 hw) (by decide) (by decide) lk213 cd_M_chosen lk163 lk214 lk215 (by decide) (cM_M _) rfl nm_M_chosen rfl rfl (Nat.le_of_ble_eq_true rfl) d_M_matches_17 (fun r7 h8 hw => ?_)
    refine z_istore (pc := 20) X d_M_matches_20 (by decide) rfl ?_
    refine z_aload_n (pc := 22) X 1 d_M_matches_22 rfl rfl ?_
    refine z_get (i := 0) (pc := 23) X (by decide) (cM_M _) rfl hin_M 27 (by decide) lk211 rfl rfl d_M_matches_23 ?_
    refine z_iload_n (pc := 26) X 4 d_M_matches_26 rfl rfl ?_
    refine z_aload_n (pc := 27) X 1 d_M_matches_27 rfl rfl ?_
    refine z_get (i := 0) (pc := 28) X (by decide) (cM_M _) rfl hin_M 18 (by decide) lk194 rfl rfl d_M_matches_28 ?_
    refine z_iload (pc := 31) X 0 d_M_matches_31 rfl ?_
    obtain ⟨k9, hk9, ek9, hw⟩ := hw
    refine z_iald (i := 15) (pc := 33) X 0 (by decide) (cM__values _) rfl (by decide) hk9 ek9 d_M_matches_33 ?_
    obtain ⟨k10, hk10, ek10, hw⟩ := hw
    refine z_iast (i := 23) (pc := 34) X 0 (by decide) (fun g => (cM__tried g)) rfl (by decide) hk10 ek10 d_M_matches_34 ?_
    have hw := hw _ rfl
    refine z_iload_n (pc := 35) X 3 d_M_matches_35 rfl rfl ?_
    refine z_if_eq (tgt := 62) (pc := 36) X d_M_matches_36 (by decide) (fun hc => ?_) (fun hc => ?_)
    · have hw := hw.1 hc
      exact z_to [1, 2, 4, 0] rfl (kb_M_matches_62 X hK4 hw)
    · have hw := hw.2 hc
      refine z_aload_n (pc := 39) X 1 d_M_matches_39 rfl rfl ?_
      refine z_iconst (v := (4 : Int32)) (pc := 40) X d_M_matches_40 (by decide) ?_
      refine z_iload_n (pc := 41) X 2 d_M_matches_41 rfl rfl ?_
      refine z_imul (pc := 42) X d_M_matches_42 ?_
      refine z_iload_n (pc := 43) X 4 d_M_matches_43 rfl rfl ?_
      refine z_iadd (pc := 44) X d_M_matches_44 ?_
      refine z_aload_n (pc := 45) X 1 d_M_matches_45 rfl rfl ?_
      refine z_get (i := 0) (pc := 46) X (by decide) (cM_M _) rfl hin_M 18 (by decide) lk194 rfl rfl d_M_matches_46 ?_
      refine z_iload (pc := 49) X 0 d_M_matches_49 rfl ?_
      obtain ⟨k12, hk12, ek12, hw⟩ := hw
      refine z_iald (i := 15) (pc := 51) X 0 (by decide) (cM__values _) rfl (by decide) hk12 ek12 d_M_matches_51 ?_
      refine z_cVi (i := 0) (pc := 52) X [.int _, .int _] (c_M_passes X.2.2.2.2.2.2.2.2.1 hw) (by decide) (by decide) lk219 cd_M_passes lk163 lk220 lk221 (by decide) (cM_M _) rfl nm_M_passes rfl rfl (Nat.le_of_ble_eq_true rfl) d_M_matches_52 (fun r13 h14 hw => ?_)
      refine z_if_eq (tgt := 62) (pc := 55) X d_M_matches_55 (by decide) (fun hc => ?_) (fun hc => ?_)
      · have hw := hw.1 hc
        exact z_to [1, 2, 4, 0] rfl (kb_M_matches_62 X hK4 hw)
      · have hw := hw.2 hc
        refine z_iconst (v := (1 : Int32)) (pc := 58) X d_M_matches_58 (by decide) ?_
        refine z_goto (tgt := 63) (pc := 59) X d_M_matches_59 (by decide) ?_
        exact z_to [1, 2, 4, 0] rfl (kb_M_matches_63 X hK4 hw)
theorem kl_M_matches_4 {Q : Int32 → RS → Prop} (X : Cx p l R s m args meth c b_M_matches 6 R_M (some .boolean) D clM (tyM q) a 24 1 30 tbW) : ∀ (n : Nat) (h : RS) (x1 : Int32) (x2 : Int32) (x3 : Int32), wp_M_matches_4 Q n h x1 x2 x3 → Z p l e R s m args below meth c D clM 24 a (ceM a q) 6 (MQ below (va_Qi Q (AtC D clM 24 a (ceM a q)) (inW a 24)) args s 0 0 (inW a 24)) h 4 [(0, .ref (a 0)), (1, .int x1), (2, .int x2), (3, .int x3)] [] := by
  intro n
  induction n with
  | zero =>
    intro h x1 x2 x3 hw
    exact hw.elim
  | succ n ih =>
    intro h x1 x2 x3 hw
    exact kb_M_matches_4 X ih hw
set_option maxHeartbeats 4000000 in
set_option maxRecDepth 100000 in
theorem kb_M_matches_0 {Q : Int32 → RS → Prop} (X : Cx p l R s m args meth c b_M_matches 6 R_M (some .boolean) D clM (tyM q) a 24 1 30 tbW) {h : RS} {x1 : Int32} (hw : bp_M_matches_0 Q h x1) : Z p l e R s m args below meth c D clM 24 a (ceM a q) 6 (MQ below (va_Qi Q (AtC D clM 24 a (ceM a q)) (inW a 24)) args s 0 0 (inW a 24)) h 0 [(0, .ref (a 0)), (1, .int x1)] [] := by
  unfold bp_M_matches_0 at hw
  refine z_iconst (v := (1 : Int32)) (pc := 0) X d_M_matches_0 (by decide) ?_
  refine z_istore_n (pc := 1) X d_M_matches_1 rfl (by decide) rfl ?_
  refine z_iconst (v := (0 : Int32)) (pc := 2) X d_M_matches_2 (by decide) ?_
  refine z_istore_n (pc := 3) X d_M_matches_3 rfl (by decide) rfl ?_
  obtain ⟨n15, hw⟩ := hw
  exact z_to [2, 3, 1, 0] rfl (kl_M_matches_4 X n15 _ _ _ _ hw)
theorem c_M_matches {l : Launch} {D : va_G} {a : Nat → Nat} {q : Nat → ClassId} (hI : injW a 24) {h : RS} {x1 : Int32} {Q : Int32 → RS → Prop} (hw : wp_M_matches h x1 Q) : Met l y_M_matches [.code y_M_matches b_M_matches 6 (some .boolean)] { frames := 1, cells := 0, slots := 0, locals := 30 } (va_Pc [.ref (a 0), .int x1] (PreC tbW D clM (tyM q) 24 a (ceM a q) h)) (va_Qi Q (AtC D clM 24 a (ceM a q)) (inW a 24)) 0 0 (inW a 24) :=
  m_of (by decide +kernel) hI tb_ok (Nat.le_of_ble_eq_true rfl) (fun p e R s m below meth c X => kb_M_matches_0 X hw)
set_option maxHeartbeats 4000000 in
set_option maxRecDepth 100000 in
theorem kb_M_find_58 {Q : Int32 → RS → Prop} (X : Cx p l R s m args meth c b_M_find 7 R_M (some .boolean) D clM (tyM q) a 24 2 55 tbW) {K40 : RS → Int32 → Int32 → Int32 → Prop} (hK40 : ∀ (h : RS) (x1 : Int32) (x2 : Int32) (x3 : Int32), K40 h x1 x2 x3 → Z p l e R s m args below meth c D clM 24 a (ceM a q) 7 (MQ below (va_Qi Q (AtC D clM 24 a (ceM a q)) (inW a 24)) args s 0 0 (inW a 24)) h 40 [(0, .ref (a 0)), (1, .int x1), (2, .int x2), (3, .int x3)] []) {K58 : RS → Int32 → Int32 → Int32 → Int32 → Int32 → Prop} (hK58 : ∀ (h : RS) (x1 : Int32) (x2 : Int32) (x3 : Int32) (x4 : Int32) (x5 : Int32), K58 h x1 x2 x3 x4 x5 → Z p l e R s m args below meth c D clM 24 a (ceM a q) 7 (MQ below (va_Qi Q (AtC D clM 24 a (ceM a q)) (inW a 24)) args s 0 0 (inW a 24)) h 58 [(0, .ref (a 0)), (1, .int x1), (2, .int x2), (3, .int x3), (4, .int x4), (5, .int x5)] []) {h : RS} {x1 : Int32} {x2 : Int32} {x3 : Int32} {x4 : Int32} {x5 : Int32} (hw : bp_M_find_58 K40 K58 Q h x1 x2 x3 x4 x5) : Z p l e R s m args below meth c D clM 24 a (ceM a q) 7 (MQ below (va_Qi Q (AtC D clM 24 a (ceM a q)) (inW a 24)) args s 0 0 (inW a 24)) h 58 [(0, .ref (a 0)), (1, .int x1), (2, .int x2), (3, .int x3), (4, .int x4), (5, .int x5)] [] := by
  unfold bp_M_find_58 at hw
  refine z_iload (pc := 58) X 5 d_M_find_58 rfl ?_
  refine z_if_lt (tgt := 106) (pc := 60) X d_M_find_60 (by decide) (fun hc => ?_) (fun hc => ?_)
  · have hw := hw.1 hc
    refine z_aload_n (pc := 106) X 0 d_M_find_106 rfl rfl ?_
    refine z_iload_n (pc := 107) X 1 d_M_find_107 rfl rfl ?_
    refine z_cVi (i := 0) (pc := 108) X [.int _] (c_M_matches X.2.2.2.2.2.2.2.2.1 hw) (by decide) (by decide) lk222 cd_M_matches lk163 lk223 lk224 (by decide) (cM_M _) rfl nm_M_matches rfl rfl (Nat.le_of_ble_eq_true rfl) d_M_find_108 (fun r1 h2 hw => ?_)
    refine z_if_eq (tgt := 116) (pc := 111) X d_M_find_111 (by decide) (fun hc => ?_) (fun hc => ?_)
    · have hw := hw.1 hc
      refine z_iinc (v := (x3 + 1)) (pc := 116) X 3 d_M_find_116 rfl rfl (by decide) rfl ?_
      refine z_goto (tgt := 40) (pc := 119) X d_M_find_119 (by decide) ?_
      exact z_to [1, 2, 3, 0] rfl (hK40 _ _ _ _ hw)
    · have hw := hw.2 hc
      refine z_iconst (v := (1 : Int32)) (pc := 114) X d_M_find_114 (by decide) ?_
      exact z_zret (pc := 115) X hw.1 d_M_find_115 hw.2
  · have hw := hw.2 hc
    refine z_aload_n (pc := 63) X 0 d_M_find_63 rfl rfl ?_
    refine z_get (i := 0) (pc := 64) X (by decide) (cM_M _) rfl hin_M 25 (by decide) lk198 rfl rfl d_M_find_64 ?_
    refine z_aload_n (pc := 67) X 0 d_M_find_67 rfl rfl ?_
    refine z_get (i := 0) (pc := 68) X (by decide) (cM_M _) rfl hin_M 4 (by decide) lk169 rfl rfl d_M_find_68 ?_
    refine z_iconst (v := (4 : Int32)) (pc := 71) X d_M_find_71 (by decide) ?_
    refine z_iload_n (pc := 72) X 1 d_M_find_72 rfl rfl ?_
    refine z_imul (pc := 73) X d_M_find_73 ?_
    refine z_iload (pc := 74) X 5 d_M_find_74 rfl ?_
    refine z_iadd (pc := 76) X d_M_find_76 ?_
    obtain ⟨k3, hk3, ek3, hw⟩ := hw
    refine z_iald (i := 3) (pc := 77) X 0 (by decide) (cM__partChannel _) rfl (by decide) hk3 ek3 d_M_find_77 ?_
    obtain ⟨k4, hk4, ek4, hw⟩ := hw
    refine z_iald (i := 21) (pc := 78) X 0 (by decide) (cM__count _) rfl (by decide) hk4 ek4 d_M_find_78 ?_
    refine z_istore (pc := 79) X d_M_find_79 (by decide) rfl ?_
    refine z_aload_n (pc := 81) X 1 d_M_find_81 rfl rfl ?_
    refine z_get (i := 0) (pc := 82) X (by decide) (cM_M _) rfl hin_M 26 (by decide) lk212 rfl rfl d_M_find_82 ?_
    refine z_iload (pc := 85) X 6 d_M_find_85 rfl ?_
    refine z_iload (pc := 87) X 5 d_M_find_87 rfl ?_
    refine z_iload (pc := 89) X 0 d_M_find_89 rfl ?_
    obtain ⟨hne, hw⟩ := hw
    refine z_irem (pc := 91) X d_M_find_91 hne ?_
    obtain ⟨k5, hk5, ek5, hw⟩ := hw
    refine z_iast (i := 22) (pc := 92) X 0 (by decide) (fun g => (cM__digit g)) rfl (by decide) hk5 ek5 d_M_find_92 ?_
    have hw := hw _ rfl
    refine z_iload (pc := 93) X 5 d_M_find_93 rfl ?_
    refine z_iload (pc := 95) X 0 d_M_find_95 rfl ?_
    obtain ⟨hne, hw⟩ := hw
    refine z_idiv (pc := 97) X d_M_find_97 hne ?_
    refine z_istore (pc := 98) X d_M_find_98 (by decide) rfl ?_
    refine z_iinc (v := (x5 + (-1))) (pc := 100) X 6 d_M_find_100 rfl rfl (by decide) rfl ?_
    refine z_goto (tgt := 58) (pc := 103) X d_M_find_103 (by decide) ?_
    exact z_to [3, 4, 5, 6, 1, 0] rfl (hK58 _ _ _ _ _ _ hw)
theorem kl_M_find_58 {Q : Int32 → RS → Prop} (X : Cx p l R s m args meth c b_M_find 7 R_M (some .boolean) D clM (tyM q) a 24 2 55 tbW) {K40 : RS → Int32 → Int32 → Int32 → Prop} (hK40 : ∀ (h : RS) (x1 : Int32) (x2 : Int32) (x3 : Int32), K40 h x1 x2 x3 → Z p l e R s m args below meth c D clM 24 a (ceM a q) 7 (MQ below (va_Qi Q (AtC D clM 24 a (ceM a q)) (inW a 24)) args s 0 0 (inW a 24)) h 40 [(0, .ref (a 0)), (1, .int x1), (2, .int x2), (3, .int x3)] []) : ∀ (n : Nat) (h : RS) (x1 : Int32) (x2 : Int32) (x3 : Int32) (x4 : Int32) (x5 : Int32), wp_M_find_58 K40 Q n h x1 x2 x3 x4 x5 → Z p l e R s m args below meth c D clM 24 a (ceM a q) 7 (MQ below (va_Qi Q (AtC D clM 24 a (ceM a q)) (inW a 24)) args s 0 0 (inW a 24)) h 58 [(0, .ref (a 0)), (1, .int x1), (2, .int x2), (3, .int x3), (4, .int x4), (5, .int x5)] [] := by
  intro n
  induction n with
  | zero =>
    intro h x1 x2 x3 x4 x5 hw
    exact hw.elim
  | succ n ih =>
    intro h x1 x2 x3 x4 x5 hw
    exact kb_M_find_58 X hK40 ih hw
set_option maxHeartbeats 4000000 in
set_option maxRecDepth 100000 in
theorem kb_M_find_40 {Q : Int32 → RS → Prop} (X : Cx p l R s m args meth c b_M_find 7 R_M (some .boolean) D clM (tyM q) a 24 2 55 tbW) {K40 : RS → Int32 → Int32 → Int32 → Prop} (hK40 : ∀ (h : RS) (x1 : Int32) (x2 : Int32) (x3 : Int32), K40 h x1 x2 x3 → Z p l e R s m args below meth c D clM 24 a (ceM a q) 7 (MQ below (va_Qi Q (AtC D clM 24 a (ceM a q)) (inW a 24)) args s 0 0 (inW a 24)) h 40 [(0, .ref (a 0)), (1, .int x1), (2, .int x2), (3, .int x3)] []) {h : RS} {x1 : Int32} {x2 : Int32} {x3 : Int32} (hw : bp_M_find_40 K40 Q h x1 x2 x3) : Z p l e R s m args below meth c D clM 24 a (ceM a q) 7 (MQ below (va_Qi Q (AtC D clM 24 a (ceM a q)) (inW a 24)) args s 0 0 (inW a 24)) h 40 [(0, .ref (a 0)), (1, .int x1), (2, .int x2), (3, .int x3)] [] := by
  unfold bp_M_find_40 at hw
  refine z_iload_n (pc := 40) X 3 d_M_find_40 rfl rfl ?_
  refine z_iload_n (pc := 41) X 2 d_M_find_41 rfl rfl ?_
  refine z_icmp_ge (tgt := 122) (pc := 42) X d_M_find_42 (by decide) (fun hc => ?_) (fun hc => ?_)
  · have hw := hw.1 hc
    refine z_iconst (v := (0 : Int32)) (pc := 122) X d_M_find_122 (by decide) ?_
    exact z_zret (pc := 123) X hw.1 d_M_find_123 hw.2
  · have hw := hw.2 hc
    refine z_iload_n (pc := 45) X 3 d_M_find_45 rfl rfl ?_
    refine z_istore (pc := 46) X d_M_find_46 (by decide) rfl ?_
    refine z_aload_n (pc := 48) X 1 d_M_find_48 rfl rfl ?_
    refine z_get (i := 0) (pc := 49) X (by decide) (cM_M _) rfl hin_M 3 (by decide) lk161 rfl rfl d_M_find_49 ?_
    refine z_iload_n (pc := 52) X 2 d_M_find_52 rfl rfl ?_
    obtain ⟨k7, hk7, ek7, hw⟩ := hw
    refine z_iald (i := 2) (pc := 53) X 0 (by decide) (cM__parts _) rfl (by decide) hk7 ek7 d_M_find_53 ?_
    refine z_iconst (v := (1 : Int32)) (pc := 54) X d_M_find_54 (by decide) ?_
    refine z_isub (pc := 55) X d_M_find_55 ?_
    refine z_istore (pc := 56) X d_M_find_56 (by decide) rfl ?_
    obtain ⟨n8, hw⟩ := hw
    exact z_to [2, 3, 4, 5, 1, 0] rfl (kl_M_find_58 X hK40 n8 _ _ _ _ _ _ hw)
theorem kl_M_find_40 {Q : Int32 → RS → Prop} (X : Cx p l R s m args meth c b_M_find 7 R_M (some .boolean) D clM (tyM q) a 24 2 55 tbW) : ∀ (n : Nat) (h : RS) (x1 : Int32) (x2 : Int32) (x3 : Int32), wp_M_find_40 Q n h x1 x2 x3 → Z p l e R s m args below meth c D clM 24 a (ceM a q) 7 (MQ below (va_Qi Q (AtC D clM 24 a (ceM a q)) (inW a 24)) args s 0 0 (inW a 24)) h 40 [(0, .ref (a 0)), (1, .int x1), (2, .int x2), (3, .int x3)] [] := by
  intro n
  induction n with
  | zero =>
    intro h x1 x2 x3 hw
    exact hw.elim
  | succ n ih =>
    intro h x1 x2 x3 hw
    exact kb_M_find_40 X ih hw
set_option maxHeartbeats 4000000 in
set_option maxRecDepth 100000 in
theorem kb_M_find_4 {Q : Int32 → RS → Prop} (X : Cx p l R s m args meth c b_M_find 7 R_M (some .boolean) D clM (tyM q) a 24 2 55 tbW) {K4 : RS → Int32 → Int32 → Int32 → Prop} (hK4 : ∀ (h : RS) (x1 : Int32) (x2 : Int32) (x3 : Int32), K4 h x1 x2 x3 → Z p l e R s m args below meth c D clM 24 a (ceM a q) 7 (MQ below (va_Qi Q (AtC D clM 24 a (ceM a q)) (inW a 24)) args s 0 0 (inW a 24)) h 4 [(0, .ref (a 0)), (1, .int x1), (2, .int x2), (3, .int x3)] []) {h : RS} {x1 : Int32} {x2 : Int32} {x3 : Int32} (hw : bp_M_find_4 K4 Q h x1 x2 x3) : Z p l e R s m args below meth c D clM 24 a (ceM a q) 7 (MQ below (va_Qi Q (AtC D clM 24 a (ceM a q)) (inW a 24)) args s 0 0 (inW a 24)) h 4 [(0, .ref (a 0)), (1, .int x1), (2, .int x2), (3, .int x3)] [] := by
  unfold bp_M_find_4 at hw
  refine z_iload_n (pc := 4) X 3 d_M_find_4 rfl rfl ?_
  refine z_aload_n (pc := 5) X 0 d_M_find_5 rfl rfl ?_
  refine z_get (i := 0) (pc := 6) X (by decide) (cM_M _) rfl hin_M 3 (by decide) lk161 rfl rfl d_M_find_6 ?_
  refine z_iload_n (pc := 9) X 1 d_M_find_9 rfl rfl ?_
  obtain ⟨k9, hk9, ek9, hw⟩ := hw
  refine z_iald (i := 2) (pc := 10) X 0 (by decide) (cM__parts _) rfl (by decide) hk9 ek9 d_M_find_10 ?_
  refine z_icmp_ge (tgt := 38) (pc := 11) X d_M_find_11 (by decide) (fun hc => ?_) (fun hc => ?_)
  · have hw := hw.1 hc
    refine z_iconst (v := (0 : Int32)) (pc := 38) X d_M_find_38 (by decide) ?_
    refine z_istore_n (pc := 39) X d_M_find_39 rfl (by decide) rfl ?_
    obtain ⟨n10, hw⟩ := hw
    exact z_to [1, 2, 3, 0] rfl (kl_M_find_40 X n10 _ _ _ _ hw)
  · have hw := hw.2 hc
    refine z_iload_n (pc := 14) X 2 d_M_find_14 rfl rfl ?_
    refine z_aload_n (pc := 15) X 0 d_M_find_15 rfl rfl ?_
    refine z_get (i := 0) (pc := 16) X (by decide) (cM_M _) rfl hin_M 25 (by decide) lk198 rfl rfl d_M_find_16 ?_
    refine z_aload_n (pc := 19) X 0 d_M_find_19 rfl rfl ?_
    refine z_get (i := 0) (pc := 20) X (by decide) (cM_M _) rfl hin_M 4 (by decide) lk169 rfl rfl d_M_find_20 ?_
    refine z_iconst (v := (4 : Int32)) (pc := 23) X d_M_find_23 (by decide) ?_
    refine z_iload_n (pc := 24) X 1 d_M_find_24 rfl rfl ?_
    refine z_imul (pc := 25) X d_M_find_25 ?_
    refine z_iload_n (pc := 26) X 3 d_M_find_26 rfl rfl ?_
    refine z_iadd (pc := 27) X d_M_find_27 ?_
    obtain ⟨k11, hk11, ek11, hw⟩ := hw
    refine z_iald (i := 3) (pc := 28) X 0 (by decide) (cM__partChannel _) rfl (by decide) hk11 ek11 d_M_find_28 ?_
    obtain ⟨k12, hk12, ek12, hw⟩ := hw
    refine z_iald (i := 21) (pc := 29) X 0 (by decide) (cM__count _) rfl (by decide) hk12 ek12 d_M_find_29 ?_
    refine z_imul (pc := 30) X d_M_find_30 ?_
    refine z_istore_n (pc := 31) X d_M_find_31 rfl (by decide) rfl ?_
    refine z_iinc (v := (x3 + 1)) (pc := 32) X 3 d_M_find_32 rfl rfl (by decide) rfl ?_
    refine z_goto (tgt := 4) (pc := 35) X d_M_find_35 (by decide) ?_
    exact z_to [2, 3, 1, 0] rfl (hK4 _ _ _ _ hw)
theorem kl_M_find_4 {Q : Int32 → RS → Prop} (X : Cx p l R s m args meth c b_M_find 7 R_M (some .boolean) D clM (tyM q) a 24 2 55 tbW) : ∀ (n : Nat) (h : RS) (x1 : Int32) (x2 : Int32) (x3 : Int32), wp_M_find_4 Q n h x1 x2 x3 → Z p l e R s m args below meth c D clM 24 a (ceM a q) 7 (MQ below (va_Qi Q (AtC D clM 24 a (ceM a q)) (inW a 24)) args s 0 0 (inW a 24)) h 4 [(0, .ref (a 0)), (1, .int x1), (2, .int x2), (3, .int x3)] [] := by
  intro n
  induction n with
  | zero =>
    intro h x1 x2 x3 hw
    exact hw.elim
  | succ n ih =>
    intro h x1 x2 x3 hw
    exact kb_M_find_4 X ih hw
set_option maxHeartbeats 4000000 in
set_option maxRecDepth 100000 in
theorem kb_M_find_0 {Q : Int32 → RS → Prop} (X : Cx p l R s m args meth c b_M_find 7 R_M (some .boolean) D clM (tyM q) a 24 2 55 tbW) {h : RS} {x1 : Int32} (hw : bp_M_find_0 Q h x1) : Z p l e R s m args below meth c D clM 24 a (ceM a q) 7 (MQ below (va_Qi Q (AtC D clM 24 a (ceM a q)) (inW a 24)) args s 0 0 (inW a 24)) h 0 [(0, .ref (a 0)), (1, .int x1)] [] := by
  unfold bp_M_find_0 at hw
  refine z_iconst (v := (1 : Int32)) (pc := 0) X d_M_find_0 (by decide) ?_
  refine z_istore_n (pc := 1) X d_M_find_1 rfl (by decide) rfl ?_
  refine z_iconst (v := (0 : Int32)) (pc := 2) X d_M_find_2 (by decide) ?_
  refine z_istore_n (pc := 3) X d_M_find_3 rfl (by decide) rfl ?_
  obtain ⟨n13, hw⟩ := hw
  exact z_to [2, 3, 1, 0] rfl (kl_M_find_4 X n13 _ _ _ _ hw)
theorem c_M_find {l : Launch} {D : va_G} {a : Nat → Nat} {q : Nat → ClassId} (hI : injW a 24) {h : RS} {x1 : Int32} {Q : Int32 → RS → Prop} (hw : wp_M_find h x1 Q) : Met l y_M_find [.code y_M_find b_M_find 7 (some .boolean)] { frames := 2, cells := 0, slots := 0, locals := 55 } (va_Pc [.ref (a 0), .int x1] (PreC tbW D clM (tyM q) 24 a (ceM a q) h)) (va_Qi Q (AtC D clM 24 a (ceM a q)) (inW a 24)) 0 0 (inW a 24) :=
  m_of (by decide +kernel) hI tb_ok (Nat.le_of_ble_eq_true rfl) (fun p e R s m below meth c X => kb_M_find_0 X hw)
set_option maxHeartbeats 4000000 in
set_option maxRecDepth 100000 in
theorem kb_M_room_156 {Q : Int32 → RS → Prop} (X : Cx p l R s m args meth c b_M_room 8 R_M (some .boolean) D clM (tyM q) a 24 0 0 tbW) {K7 : RS → Int32 → Int32 → Int32 → Int32 → Prop} (hK7 : ∀ (h : RS) (x1 : Int32) (x2 : Int32) (x3 : Int32) (x4 : Int32), K7 h x1 x2 x3 x4 → Z p l e R s m args below meth c D clM 24 a (ceM a q) 8 (MQ below (va_Qi Q (AtC D clM 24 a (ceM a q)) (inW a 24)) args s 0 0 (inW a 24)) h 7 [(0, .ref (a 0)), (1, .int x1), (2, .int x2), (3, .int x3), (4, .int x4)] []) {h : RS} {x1 : Int32} {x2 : Int32} {x4 : Int32} (hw : bp_M_room_156 K7 Q h x1 x2 x4) : Z p l e R s m args below meth c D clM 24 a (ceM a q) 8 (MQ below (va_Qi Q (AtC D clM 24 a (ceM a q)) (inW a 24)) args s 0 0 (inW a 24)) h 156 [(0, .ref (a 0)), (1, .int x1), (2, .int x2), (4, .int x4)] [] := by
  unfold bp_M_room_156 at hw
  refine z_iconst (v := (0 : Int32)) (pc := 156) X d_M_room_156 (by decide) ?_
  refine z_istore_n (pc := 157) X d_M_room_157 rfl (by decide) rfl ?_
  refine z_iinc (v := (x4 + 1)) (pc := 158) X 4 d_M_room_158 rfl rfl (by decide) rfl ?_
  refine z_goto (tgt := 7) (pc := 161) X d_M_room_161 (by decide) ?_
  exact z_to [2, 3, 4, 1, 0] rfl (hK7 _ _ _ _ _ hw)
set_option maxHeartbeats 4000000 in
set_option maxRecDepth 100000 in
theorem kb_M_room_120 {Q : Int32 → RS → Prop} (X : Cx p l R s m args meth c b_M_room 8 R_M (some .boolean) D clM (tyM q) a 24 0 0 tbW) {K7 : RS → Int32 → Int32 → Int32 → Int32 → Prop} (hK7 : ∀ (h : RS) (x1 : Int32) (x2 : Int32) (x3 : Int32) (x4 : Int32), K7 h x1 x2 x3 x4 → Z p l e R s m args below meth c D clM 24 a (ceM a q) 8 (MQ below (va_Qi Q (AtC D clM 24 a (ceM a q)) (inW a 24)) args s 0 0 (inW a 24)) h 7 [(0, .ref (a 0)), (1, .int x1), (2, .int x2), (3, .int x3), (4, .int x4)] []) {K28 : RS → Int32 → Int32 → Int32 → Int32 → Int32 → Int32 → Prop} (hK28 : ∀ (h : RS) (x1 : Int32) (x2 : Int32) (x3 : Int32) (x4 : Int32) (x5 : Int32) (x6 : Int32), K28 h x1 x2 x3 x4 x5 x6 → Z p l e R s m args below meth c D clM 24 a (ceM a q) 8 (MQ below (va_Qi Q (AtC D clM 24 a (ceM a q)) (inW a 24)) args s 0 0 (inW a 24)) h 28 [(0, .ref (a 0)), (1, .int x1), (2, .int x2), (3, .int x3), (4, .int x4), (5, .int x5), (6, .int x6)] []) {h : RS} {x1 : Int32} {x2 : Int32} {x3 : Int32} {x4 : Int32} {x6 : Int32} {x7 : Int32} {y0 : Int32} (hw : bp_M_room_120 K7 K28 Q h x1 x2 x3 x4 x6 x7 y0) : Z p l e R s m args below meth c D clM 24 a (ceM a q) 8 (MQ below (va_Qi Q (AtC D clM 24 a (ceM a q)) (inW a 24)) args s 0 0 (inW a 24)) h 120 [(0, .ref (a 0)), (1, .int x1), (2, .int x2), (3, .int x3), (4, .int x4), (6, .int x6), (7, .int x7)] [.int y0] := by
  unfold bp_M_room_120 at hw
  refine z_istore (pc := 120) X d_M_room_120 (by decide) rfl ?_
  refine z_iload (pc := 122) X 7 d_M_room_122 rfl ?_
  refine z_if_eq (tgt := 133) (pc := 124) X d_M_room_124 (by decide) (fun hc => ?_) (fun hc => ?_)
  · have hw := hw.1 hc
    refine z_iload_n (pc := 133) X 3 d_M_room_133 rfl rfl ?_
    refine z_istore_n (pc := 134) X d_M_room_134 rfl (by decide) rfl ?_
    refine z_iinc (v := (x6 + 1)) (pc := 135) X 6 d_M_room_135 rfl rfl (by decide) rfl ?_
    refine z_goto (tgt := 28) (pc := 138) X d_M_room_138 (by decide) ?_
    exact z_to [3, 4, 1, 5, 6, 2, 0] rfl (hK28 _ _ _ _ _ _ _ hw)
  · have hw := hw.2 hc
    refine z_iload_n (pc := 127) X 3 d_M_room_127 rfl rfl ?_
    refine z_iconst (v := (1 : Int32)) (pc := 128) X d_M_room_128 (by decide) ?_
    refine z_iadd (pc := 129) X d_M_room_129 ?_
    refine z_goto (tgt := 134) (pc := 130) X d_M_room_130 (by decide) ?_
    refine z_istore_n (pc := 134) X d_M_room_134 rfl (by decide) rfl ?_
    refine z_iinc (v := (x6 + 1)) (pc := 135) X 6 d_M_room_135 rfl rfl (by decide) rfl ?_
    refine z_goto (tgt := 28) (pc := 138) X d_M_room_138 (by decide) ?_
    exact z_to [3, 4, 1, 5, 6, 2, 0] rfl (hK28 _ _ _ _ _ _ _ hw)
set_option maxHeartbeats 4000000 in
set_option maxRecDepth 100000 in
theorem kb_M_room_104 {Q : Int32 → RS → Prop} (X : Cx p l R s m args meth c b_M_room 8 R_M (some .boolean) D clM (tyM q) a 24 0 0 tbW) {K7 : RS → Int32 → Int32 → Int32 → Int32 → Prop} (hK7 : ∀ (h : RS) (x1 : Int32) (x2 : Int32) (x3 : Int32) (x4 : Int32), K7 h x1 x2 x3 x4 → Z p l e R s m args below meth c D clM 24 a (ceM a q) 8 (MQ below (va_Qi Q (AtC D clM 24 a (ceM a q)) (inW a 24)) args s 0 0 (inW a 24)) h 7 [(0, .ref (a 0)), (1, .int x1), (2, .int x2), (3, .int x3), (4, .int x4)] []) {K28 : RS → Int32 → Int32 → Int32 → Int32 → Int32 → Int32 → Prop} (hK28 : ∀ (h : RS) (x1 : Int32) (x2 : Int32) (x3 : Int32) (x4 : Int32) (x5 : Int32) (x6 : Int32), K28 h x1 x2 x3 x4 x5 x6 → Z p l e R s m args below meth c D clM 24 a (ceM a q) 8 (MQ below (va_Qi Q (AtC D clM 24 a (ceM a q)) (inW a 24)) args s 0 0 (inW a 24)) h 28 [(0, .ref (a 0)), (1, .int x1), (2, .int x2), (3, .int x3), (4, .int x4), (5, .int x5), (6, .int x6)] []) {h : RS} {x1 : Int32} {x2 : Int32} {x3 : Int32} {x4 : Int32} {x5 : Int32} {x6 : Int32} {y0 : Int32} (hw : bp_M_room_104 K7 K28 Q h x1 x2 x3 x4 x5 x6 y0) : Z p l e R s m args below meth c D clM 24 a (ceM a q) 8 (MQ below (va_Qi Q (AtC D clM 24 a (ceM a q)) (inW a 24)) args s 0 0 (inW a 24)) h 104 [(0, .ref (a 0)), (1, .int x1), (2, .int x2), (3, .int x3), (4, .int x4), (5, .int x5), (6, .int x6)] [.int y0] := by
  unfold bp_M_room_104 at hw
  refine z_istore (pc := 104) X d_M_room_104 (by decide) rfl ?_
  refine z_iload (pc := 106) X 0 d_M_room_106 rfl ?_
  refine z_if_eq (tgt := 118) (pc := 108) X d_M_room_108 (by decide) (fun hc => ?_) (fun hc => ?_)
  · have hw := hw.1 hc
    refine z_iload (pc := 118) X 6 d_M_room_118 rfl ?_
    exact z_to [1, 2, 3, 4, 5, 7, 0] rfl (kb_M_room_120 X hK7 hK28 hw)
  · have hw := hw.2 hc
    refine z_iload (pc := 111) X 6 d_M_room_111 rfl ?_
    refine z_iconst (v := (1 : Int32)) (pc := 113) X d_M_room_113 (by decide) ?_
    refine z_iadd (pc := 114) X d_M_room_114 ?_
    refine z_goto (tgt := 120) (pc := 115) X d_M_room_115 (by decide) ?_
    exact z_to [1, 2, 3, 4, 5, 7, 0] rfl (kb_M_room_120 X hK7 hK28 hw)
set_option maxHeartbeats 4000000 in
set_option maxRecDepth 100000 in
theorem kb_M_room_103 {Q : Int32 → RS → Prop} (X : Cx p l R s m args meth c b_M_room 8 R_M (some .boolean) D clM (tyM q) a 24 0 0 tbW) {K7 : RS → Int32 → Int32 → Int32 → Int32 → Prop} (hK7 : ∀ (h : RS) (x1 : Int32) (x2 : Int32) (x3 : Int32) (x4 : Int32), K7 h x1 x2 x3 x4 → Z p l e R s m args below meth c D clM 24 a (ceM a q) 8 (MQ below (va_Qi Q (AtC D clM 24 a (ceM a q)) (inW a 24)) args s 0 0 (inW a 24)) h 7 [(0, .ref (a 0)), (1, .int x1), (2, .int x2), (3, .int x3), (4, .int x4)] []) {K28 : RS → Int32 → Int32 → Int32 → Int32 → Int32 → Int32 → Prop} (hK28 : ∀ (h : RS) (x1 : Int32) (x2 : Int32) (x3 : Int32) (x4 : Int32) (x5 : Int32) (x6 : Int32), K28 h x1 x2 x3 x4 x5 x6 → Z p l e R s m args below meth c D clM 24 a (ceM a q) 8 (MQ below (va_Qi Q (AtC D clM 24 a (ceM a q)) (inW a 24)) args s 0 0 (inW a 24)) h 28 [(0, .ref (a 0)), (1, .int x1), (2, .int x2), (3, .int x3), (4, .int x4), (5, .int x5), (6, .int x6)] []) {h : RS} {x1 : Int32} {x2 : Int32} {x3 : Int32} {x4 : Int32} {x5 : Int32} {x6 : Int32} (hw : bp_M_room_103 K7 K28 Q h x1 x2 x3 x4 x5 x6) : Z p l e R s m args below meth c D clM 24 a (ceM a q) 8 (MQ below (va_Qi Q (AtC D clM 24 a (ceM a q)) (inW a 24)) args s 0 0 (inW a 24)) h 103 [(0, .ref (a 0)), (1, .int x1), (2, .int x2), (3, .int x3), (4, .int x4), (5, .int x5), (6, .int x6)] [] := by
  unfold bp_M_room_103 at hw
  refine z_iconst (v := (0 : Int32)) (pc := 103) X d_M_room_103 (by decide) ?_
  exact z_to [0, 1, 2, 3, 4, 5, 6] rfl (kb_M_room_104 X hK7 hK28 hw)
set_option maxHeartbeats 4000000 in
set_option maxRecDepth 100000 in
theorem kb_M_room_70 {Q : Int32 → RS → Prop} (X : Cx p l R s m args meth c b_M_room 8 R_M (some .boolean) D clM (tyM q) a 24 0 0 tbW) {K7 : RS → Int32 → Int32 → Int32 → Int32 → Prop} (hK7 : ∀ (h : RS) (x1 : Int32) (x2 : Int32) (x3 : Int32) (x4 : Int32), K7 h x1 x2 x3 x4 → Z p l e R s m args below meth c D clM 24 a (ceM a q) 8 (MQ below (va_Qi Q (AtC D clM 24 a (ceM a q)) (inW a 24)) args s 0 0 (inW a 24)) h 7 [(0, .ref (a 0)), (1, .int x1), (2, .int x2), (3, .int x3), (4, .int x4)] []) {K28 : RS → Int32 → Int32 → Int32 → Int32 → Int32 → Int32 → Prop} (hK28 : ∀ (h : RS) (x1 : Int32) (x2 : Int32) (x3 : Int32) (x4 : Int32) (x5 : Int32) (x6 : Int32), K28 h x1 x2 x3 x4 x5 x6 → Z p l e R s m args below meth c D clM 24 a (ceM a q) 8 (MQ below (va_Qi Q (AtC D clM 24 a (ceM a q)) (inW a 24)) args s 0 0 (inW a 24)) h 28 [(0, .ref (a 0)), (1, .int x1), (2, .int x2), (3, .int x3), (4, .int x4), (5, .int x5), (6, .int x6)] []) {h : RS} {x1 : Int32} {x2 : Int32} {x3 : Int32} {x4 : Int32} {x6 : Int32} {y0 : Int32} (hw : bp_M_room_70 K7 K28 Q h x1 x2 x3 x4 x6 y0) : Z p l e R s m args below meth c D clM 24 a (ceM a q) 8 (MQ below (va_Qi Q (AtC D clM 24 a (ceM a q)) (inW a 24)) args s 0 0 (inW a 24)) h 70 [(0, .ref (a 0)), (1, .int x1), (2, .int x2), (3, .int x3), (4, .int x4), (6, .int x6)] [.int y0] := by
  unfold bp_M_room_70 at hw
  refine z_istore (pc := 70) X d_M_room_70 (by decide) rfl ?_
  refine z_iload (pc := 72) X 6 d_M_room_72 rfl ?_
  refine z_aload_n (pc := 74) X 1 d_M_room_74 rfl rfl ?_
  refine z_get (i := 0) (pc := 75) X (by decide) (cM_M _) rfl hin_M 9 (by decide) lk177 rfl rfl d_M_room_75 ?_
  refine z_iload_n (pc := 78) X 2 d_M_room_78 rfl rfl ?_
  obtain ⟨k1, hk1, ek1, hw⟩ := hw
  refine z_iald (i := 8) (pc := 79) X 0 (by decide) (cM__actions _) rfl (by decide) hk1 ek1 d_M_room_79 ?_
  refine z_icmp_ge (tgt := 103) (pc := 80) X d_M_room_80 (by decide) (fun hc => ?_) (fun hc => ?_)
  · have hw := hw.1 hc
    exact z_to [1, 2, 3, 4, 5, 0, 6] rfl (kb_M_room_103 X hK7 hK28 hw)
  · have hw := hw.2 hc
    refine z_aload_n (pc := 83) X 1 d_M_room_83 rfl rfl ?_
    refine z_get (i := 0) (pc := 84) X (by decide) (cM_M _) rfl hin_M 10 (by decide) lk178 rfl rfl d_M_room_84 ?_
    refine z_iconst (v := (4 : Int32)) (pc := 87) X d_M_room_87 (by decide) ?_
    refine z_iload_n (pc := 88) X 2 d_M_room_88 rfl rfl ?_
    refine z_imul (pc := 89) X d_M_room_89 ?_
    refine z_iload (pc := 90) X 6 d_M_room_90 rfl ?_
    refine z_iadd (pc := 92) X d_M_room_92 ?_
    obtain ⟨k2, hk2, ek2, hw⟩ := hw
    refine z_iald (i := 9) (pc := 93) X 0 (by decide) (cM__target _) rfl (by decide) hk2 ek2 d_M_room_93 ?_
    refine z_iload (pc := 94) X 5 d_M_room_94 rfl ?_
    refine z_icmp_ne (tgt := 103) (pc := 96) X d_M_room_96 (by decide) (fun hc => ?_) (fun hc => ?_)
    · have hw := hw.1 hc
      exact z_to [1, 2, 3, 4, 5, 0, 6] rfl (kb_M_room_103 X hK7 hK28 hw)
    · have hw := hw.2 hc
      refine z_iconst (v := (1 : Int32)) (pc := 99) X d_M_room_99 (by decide) ?_
      refine z_goto (tgt := 104) (pc := 100) X d_M_room_100 (by decide) ?_
      exact z_to [1, 2, 3, 4, 5, 0, 6] rfl (kb_M_room_104 X hK7 hK28 hw)
set_option maxHeartbeats 4000000 in
set_option maxRecDepth 100000 in
theorem kb_M_room_68 {Q : Int32 → RS → Prop} (X : Cx p l R s m args meth c b_M_room 8 R_M (some .boolean) D clM (tyM q) a 24 0 0 tbW) {K7 : RS → Int32 → Int32 → Int32 → Int32 → Prop} (hK7 : ∀ (h : RS) (x1 : Int32) (x2 : Int32) (x3 : Int32) (x4 : Int32), K7 h x1 x2 x3 x4 → Z p l e R s m args below meth c D clM 24 a (ceM a q) 8 (MQ below (va_Qi Q (AtC D clM 24 a (ceM a q)) (inW a 24)) args s 0 0 (inW a 24)) h 7 [(0, .ref (a 0)), (1, .int x1), (2, .int x2), (3, .int x3), (4, .int x4)] []) {K28 : RS → Int32 → Int32 → Int32 → Int32 → Int32 → Int32 → Prop} (hK28 : ∀ (h : RS) (x1 : Int32) (x2 : Int32) (x3 : Int32) (x4 : Int32) (x5 : Int32) (x6 : Int32), K28 h x1 x2 x3 x4 x5 x6 → Z p l e R s m args below meth c D clM 24 a (ceM a q) 8 (MQ below (va_Qi Q (AtC D clM 24 a (ceM a q)) (inW a 24)) args s 0 0 (inW a 24)) h 28 [(0, .ref (a 0)), (1, .int x1), (2, .int x2), (3, .int x3), (4, .int x4), (5, .int x5), (6, .int x6)] []) {h : RS} {x1 : Int32} {x2 : Int32} {x3 : Int32} {x4 : Int32} {x5 : Int32} {x6 : Int32} (hw : bp_M_room_68 K7 K28 Q h x1 x2 x3 x4 x5 x6) : Z p l e R s m args below meth c D clM 24 a (ceM a q) 8 (MQ below (va_Qi Q (AtC D clM 24 a (ceM a q)) (inW a 24)) args s 0 0 (inW a 24)) h 68 [(0, .ref (a 0)), (1, .int x1), (2, .int x2), (3, .int x3), (4, .int x4), (5, .int x5), (6, .int x6)] [] := by
  unfold bp_M_room_68 at hw
  refine z_iload (pc := 68) X 5 d_M_room_68 rfl ?_
  exact z_to [0, 1, 2, 3, 4, 6] rfl (kb_M_room_70 X hK7 hK28 hw)
set_option maxHeartbeats 4000000 in
set_option maxRecDepth 100000 in
theorem kb_M_room_28 {Q : Int32 → RS → Prop} (X : Cx p l R s m args meth c b_M_room 8 R_M (some .boolean) D clM (tyM q) a 24 0 0 tbW) {K7 : RS → Int32 → Int32 → Int32 → Int32 → Prop} (hK7 : ∀ (h : RS) (x1 : Int32) (x2 : Int32) (x3 : Int32) (x4 : Int32), K7 h x1 x2 x3 x4 → Z p l e R s m args below meth c D clM 24 a (ceM a q) 8 (MQ below (va_Qi Q (AtC D clM 24 a (ceM a q)) (inW a 24)) args s 0 0 (inW a 24)) h 7 [(0, .ref (a 0)), (1, .int x1), (2, .int x2), (3, .int x3), (4, .int x4)] []) {K28 : RS → Int32 → Int32 → Int32 → Int32 → Int32 → Int32 → Prop} (hK28 : ∀ (h : RS) (x1 : Int32) (x2 : Int32) (x3 : Int32) (x4 : Int32) (x5 : Int32) (x6 : Int32), K28 h x1 x2 x3 x4 x5 x6 → Z p l e R s m args below meth c D clM 24 a (ceM a q) 8 (MQ below (va_Qi Q (AtC D clM 24 a (ceM a q)) (inW a 24)) args s 0 0 (inW a 24)) h 28 [(0, .ref (a 0)), (1, .int x1), (2, .int x2), (3, .int x3), (4, .int x4), (5, .int x5), (6, .int x6)] []) {h : RS} {x1 : Int32} {x2 : Int32} {x3 : Int32} {x4 : Int32} {x5 : Int32} {x6 : Int32} (hw : bp_M_room_28 K7 K28 Q h x1 x2 x3 x4 x5 x6) : Z p l e R s m args below meth c D clM 24 a (ceM a q) 8 (MQ below (va_Qi Q (AtC D clM 24 a (ceM a q)) (inW a 24)) args s 0 0 (inW a 24)) h 28 [(0, .ref (a 0)), (1, .int x1), (2, .int x2), (3, .int x3), (4, .int x4), (5, .int x5), (6, .int x6)] [] := by
  unfold bp_M_room_28 at hw
  refine z_iload (pc := 28) X 6 d_M_room_28 rfl ?_
  refine z_iconst (v := (4 : Int32)) (pc := 30) X d_M_room_30 (by decide) ?_
  refine z_icmp_ge (tgt := 141) (pc := 31) X d_M_room_31 (by decide) (fun hc => ?_) (fun hc => ?_)
  · have hw := hw.1 hc
    refine z_iload_n (pc := 141) X 3 d_M_room_141 rfl rfl ?_
    refine z_if_eq (tgt := 156) (pc := 142) X d_M_room_142 (by decide) (fun hc => ?_) (fun hc => ?_)
    · have hw := hw.1 hc
      exact z_to [0, 1, 2, 4] rfl (kb_M_room_156 X hK7 hw)
    · have hw := hw.2 hc
      refine z_iload (pc := 145) X 5 d_M_room_145 rfl ?_
      refine z_bipush (v := (6 : Int32)) (pc := 147) X d_M_room_147 (by decide) ?_
      refine z_icmp_gt (tgt := 156) (pc := 149) X d_M_room_149 (by decide) (fun hc => ?_) (fun hc => ?_)
      · have hw := hw.1 hc
        exact z_to [0, 1, 2, 4] rfl (kb_M_room_156 X hK7 hw)
      · have hw := hw.2 hc
        refine z_iconst (v := (1 : Int32)) (pc := 152) X d_M_room_152 (by decide) ?_
        refine z_goto (tgt := 157) (pc := 153) X d_M_room_153 (by decide) ?_
        refine z_istore_n (pc := 157) X d_M_room_157 rfl (by decide) rfl ?_
        refine z_iinc (v := (x4 + 1)) (pc := 158) X 4 d_M_room_158 rfl rfl (by decide) rfl ?_
        refine z_goto (tgt := 7) (pc := 161) X d_M_room_161 (by decide) ?_
        exact z_to [2, 3, 4, 1, 0] rfl (hK7 _ _ _ _ _ hw)
  · have hw := hw.2 hc
    refine z_iload (pc := 34) X 6 d_M_room_34 rfl ?_
    refine z_aload_n (pc := 36) X 0 d_M_room_36 rfl rfl ?_
    refine z_get (i := 0) (pc := 37) X (by decide) (cM_M _) rfl hin_M 3 (by decide) lk161 rfl rfl d_M_room_37 ?_
    refine z_iload_n (pc := 40) X 1 d_M_room_40 rfl rfl ?_
    obtain ⟨k3, hk3, ek3, hw⟩ := hw
    refine z_iald (i := 2) (pc := 41) X 0 (by decide) (cM__parts _) rfl (by decide) hk3 ek3 d_M_room_41 ?_
    refine z_icmp_ge (tgt := 68) (pc := 42) X d_M_room_42 (by decide) (fun hc => ?_) (fun hc => ?_)
    · have hw := hw.1 hc
      exact z_to [0, 1, 2, 3, 4, 5, 6] rfl (kb_M_room_68 X hK7 hK28 hw)
    · have hw := hw.2 hc
      refine z_aload_n (pc := 45) X 0 d_M_room_45 rfl rfl ?_
      refine z_get (i := 0) (pc := 46) X (by decide) (cM_M _) rfl hin_M 4 (by decide) lk169 rfl rfl d_M_room_46 ?_
      refine z_iconst (v := (4 : Int32)) (pc := 49) X d_M_room_49 (by decide) ?_
      refine z_iload_n (pc := 50) X 1 d_M_room_50 rfl rfl ?_
      refine z_imul (pc := 51) X d_M_room_51 ?_
      refine z_iload (pc := 52) X 6 d_M_room_52 rfl ?_
      refine z_iadd (pc := 54) X d_M_room_54 ?_
      obtain ⟨k4, hk4, ek4, hw⟩ := hw
      refine z_iald (i := 3) (pc := 55) X 0 (by decide) (cM__partChannel _) rfl (by decide) hk4 ek4 d_M_room_55 ?_
      refine z_iload (pc := 56) X 4 d_M_room_56 rfl ?_
      refine z_icmp_ne (tgt := 68) (pc := 58) X d_M_room_58 (by decide) (fun hc => ?_) (fun hc => ?_)
      · have hw := hw.1 hc
        exact z_to [0, 1, 2, 3, 4, 5, 6] rfl (kb_M_room_68 X hK7 hK28 hw)
      · have hw := hw.2 hc
        refine z_iload (pc := 61) X 5 d_M_room_61 rfl ?_
        refine z_iconst (v := (1 : Int32)) (pc := 63) X d_M_room_63 (by decide) ?_
        refine z_isub (pc := 64) X d_M_room_64 ?_
        refine z_goto (tgt := 70) (pc := 65) X d_M_room_65 (by decide) ?_
        exact z_to [0, 1, 2, 3, 4, 6] rfl (kb_M_room_70 X hK7 hK28 hw)
theorem kl_M_room_28 {Q : Int32 → RS → Prop} (X : Cx p l R s m args meth c b_M_room 8 R_M (some .boolean) D clM (tyM q) a 24 0 0 tbW) {K7 : RS → Int32 → Int32 → Int32 → Int32 → Prop} (hK7 : ∀ (h : RS) (x1 : Int32) (x2 : Int32) (x3 : Int32) (x4 : Int32), K7 h x1 x2 x3 x4 → Z p l e R s m args below meth c D clM 24 a (ceM a q) 8 (MQ below (va_Qi Q (AtC D clM 24 a (ceM a q)) (inW a 24)) args s 0 0 (inW a 24)) h 7 [(0, .ref (a 0)), (1, .int x1), (2, .int x2), (3, .int x3), (4, .int x4)] []) : ∀ (n : Nat) (h : RS) (x1 : Int32) (x2 : Int32) (x3 : Int32) (x4 : Int32) (x5 : Int32) (x6 : Int32), wp_M_room_28 K7 Q n h x1 x2 x3 x4 x5 x6 → Z p l e R s m args below meth c D clM 24 a (ceM a q) 8 (MQ below (va_Qi Q (AtC D clM 24 a (ceM a q)) (inW a 24)) args s 0 0 (inW a 24)) h 28 [(0, .ref (a 0)), (1, .int x1), (2, .int x2), (3, .int x3), (4, .int x4), (5, .int x5), (6, .int x6)] [] := by
  intro n
  induction n with
  | zero =>
    intro h x1 x2 x3 x4 x5 x6 hw
    exact hw.elim
  | succ n ih =>
    intro h x1 x2 x3 x4 x5 x6 hw
    exact kb_M_room_28 X hK7 ih hw
set_option maxHeartbeats 4000000 in
set_option maxRecDepth 100000 in
theorem kb_M_room_7 {Q : Int32 → RS → Prop} (X : Cx p l R s m args meth c b_M_room 8 R_M (some .boolean) D clM (tyM q) a 24 0 0 tbW) {K7 : RS → Int32 → Int32 → Int32 → Int32 → Prop} (hK7 : ∀ (h : RS) (x1 : Int32) (x2 : Int32) (x3 : Int32) (x4 : Int32), K7 h x1 x2 x3 x4 → Z p l e R s m args below meth c D clM 24 a (ceM a q) 8 (MQ below (va_Qi Q (AtC D clM 24 a (ceM a q)) (inW a 24)) args s 0 0 (inW a 24)) h 7 [(0, .ref (a 0)), (1, .int x1), (2, .int x2), (3, .int x3), (4, .int x4)] []) {h : RS} {x1 : Int32} {x2 : Int32} {x3 : Int32} {x4 : Int32} (hw : bp_M_room_7 K7 Q h x1 x2 x3 x4) : Z p l e R s m args below meth c D clM 24 a (ceM a q) 8 (MQ below (va_Qi Q (AtC D clM 24 a (ceM a q)) (inW a 24)) args s 0 0 (inW a 24)) h 7 [(0, .ref (a 0)), (1, .int x1), (2, .int x2), (3, .int x3), (4, .int x4)] [] := by
  unfold bp_M_room_7 at hw
  refine z_iload (pc := 7) X 4 d_M_room_7 rfl ?_
  refine z_aload_n (pc := 9) X 0 d_M_room_9 rfl rfl ?_
  refine z_get (i := 0) (pc := 10) X (by decide) (cM_M _) rfl hin_M 0 (by decide) lk158 rfl rfl d_M_room_10 ?_
  refine z_icmp_ge (tgt := 164) (pc := 13) X d_M_room_13 (by decide) (fun hc => ?_) (fun hc => ?_)
  · have hw := hw.1 hc
    refine z_iload_n (pc := 164) X 3 d_M_room_164 rfl rfl ?_
    refine z_if_eq (tgt := 184) (pc := 165) X d_M_room_165 (by decide) (fun hc => ?_) (fun hc => ?_)
    · have hw := hw.1 hc
      refine z_iconst (v := (0 : Int32)) (pc := 184) X d_M_room_184 (by decide) ?_
      exact z_zret (pc := 185) X hw.1 d_M_room_185 hw.2
    · have hw := hw.2 hc
      refine z_aload_n (pc := 168) X 0 d_M_room_168 rfl rfl ?_
      refine z_get (i := 0) (pc := 169) X (by decide) (cM_M _) rfl hin_M 16 (by decide) lk193 rfl rfl d_M_room_169 ?_
      refine z_iload_n (pc := 172) X 2 d_M_room_172 rfl rfl ?_
      refine z_iadd (pc := 173) X d_M_room_173 ?_
      refine z_sipush (v := (300 : Int32)) (pc := 174) X d_M_room_174 (by decide) ?_
      refine z_icmp_gt (tgt := 184) (pc := 177) X d_M_room_177 (by decide) (fun hc => ?_) (fun hc => ?_)
      · have hw := hw.1 hc
        refine z_iconst (v := (0 : Int32)) (pc := 184) X d_M_room_184 (by decide) ?_
        exact z_zret (pc := 185) X hw.1 d_M_room_185 hw.2
      · have hw := hw.2 hc
        refine z_iconst (v := (1 : Int32)) (pc := 180) X d_M_room_180 (by decide) ?_
        refine z_goto (tgt := 185) (pc := 181) X d_M_room_181 (by decide) ?_
        exact z_zret (pc := 185) X hw.1 d_M_room_185 hw.2
  · have hw := hw.2 hc
    refine z_aload_n (pc := 16) X 0 d_M_room_16 rfl rfl ?_
    refine z_get (i := 0) (pc := 17) X (by decide) (cM_M _) rfl hin_M 25 (by decide) lk198 rfl rfl d_M_room_17 ?_
    refine z_iload (pc := 20) X 4 d_M_room_20 rfl ?_
    obtain ⟨k5, hk5, ek5, hw⟩ := hw
    refine z_iald (i := 21) (pc := 22) X 0 (by decide) (cM__count _) rfl (by decide) hk5 ek5 d_M_room_22 ?_
    refine z_istore (pc := 23) X d_M_room_23 (by decide) rfl ?_
    refine z_iconst (v := (0 : Int32)) (pc := 25) X d_M_room_25 (by decide) ?_
    refine z_istore (pc := 26) X d_M_room_26 (by decide) rfl ?_
    obtain ⟨n6, hw⟩ := hw
    exact z_to [2, 3, 4, 5, 6, 1, 0] rfl (kl_M_room_28 X hK7 n6 _ _ _ _ _ _ _ hw)
theorem kl_M_room_7 {Q : Int32 → RS → Prop} (X : Cx p l R s m args meth c b_M_room 8 R_M (some .boolean) D clM (tyM q) a 24 0 0 tbW) : ∀ (n : Nat) (h : RS) (x1 : Int32) (x2 : Int32) (x3 : Int32) (x4 : Int32), wp_M_room_7 Q n h x1 x2 x3 x4 → Z p l e R s m args below meth c D clM 24 a (ceM a q) 8 (MQ below (va_Qi Q (AtC D clM 24 a (ceM a q)) (inW a 24)) args s 0 0 (inW a 24)) h 7 [(0, .ref (a 0)), (1, .int x1), (2, .int x2), (3, .int x3), (4, .int x4)] [] := by
  intro n
  induction n with
  | zero =>
    intro h x1 x2 x3 x4 hw
    exact hw.elim
  | succ n ih =>
    intro h x1 x2 x3 x4 hw
    exact kb_M_room_7 X ih hw
set_option maxHeartbeats 4000000 in
set_option maxRecDepth 100000 in
theorem kb_M_room_0 {Q : Int32 → RS → Prop} (X : Cx p l R s m args meth c b_M_room 8 R_M (some .boolean) D clM (tyM q) a 24 0 0 tbW) {h : RS} {x1 : Int32} (hw : bp_M_room_0 Q h x1) : Z p l e R s m args below meth c D clM 24 a (ceM a q) 8 (MQ below (va_Qi Q (AtC D clM 24 a (ceM a q)) (inW a 24)) args s 0 0 (inW a 24)) h 0 [(0, .ref (a 0)), (1, .int x1)] [] := by
  unfold bp_M_room_0 at hw
  refine z_iconst (v := (0 : Int32)) (pc := 0) X d_M_room_0 (by decide) ?_
  refine z_istore_n (pc := 1) X d_M_room_1 rfl (by decide) rfl ?_
  refine z_iconst (v := (1 : Int32)) (pc := 2) X d_M_room_2 (by decide) ?_
  refine z_istore_n (pc := 3) X d_M_room_3 rfl (by decide) rfl ?_
  refine z_iconst (v := (0 : Int32)) (pc := 4) X d_M_room_4 (by decide) ?_
  refine z_istore (pc := 5) X d_M_room_5 (by decide) rfl ?_
  obtain ⟨n7, hw⟩ := hw
  exact z_to [3, 4, 2, 1, 0] rfl (kl_M_room_7 X n7 _ _ _ _ _ hw)
theorem c_M_room {l : Launch} {D : va_G} {a : Nat → Nat} {q : Nat → ClassId} (hI : injW a 24) {h : RS} {x1 : Int32} {Q : Int32 → RS → Prop} (hw : wp_M_room h x1 Q) : Met l y_M_room [.code y_M_room b_M_room 8 (some .boolean)] { frames := 0, cells := 0, slots := 0, locals := 0 } (va_Pc [.ref (a 0), .int x1] (PreC tbW D clM (tyM q) 24 a (ceM a q) h)) (va_Qi Q (AtC D clM 24 a (ceM a q)) (inW a 24)) 0 0 (inW a 24) :=
  m_of (by decide +kernel) hI tb_ok (Nat.le_of_ble_eq_true rfl) (fun p e R s m below meth c X => kb_M_room_0 X hw)
set_option maxHeartbeats 4000000 in
set_option maxRecDepth 100000 in
theorem kb_M_enabled_47 {Q : Int32 → RS → Prop} (X : Cx p l R s m args meth c b_M_enabled 3 R_M (some .int) D clM (tyM q) a 24 3 81 tbW) {K8 : RS → Int32 → Int32 → Prop} (hK8 : ∀ (h : RS) (x1 : Int32) (x2 : Int32), K8 h x1 x2 → Z p l e R s m args below meth c D clM 24 a (ceM a q) 3 (MQ below (va_Qi Q (AtC D clM 24 a (ceM a q)) (inW a 24)) args s 0 0 (inW a 24)) h 8 [(0, .ref (a 0)), (1, .int x1), (2, .int x2)] []) {h : RS} {x1 : Int32} {x2 : Int32} (hw : bp_M_enabled_47 K8 Q h x1 x2) : Z p l e R s m args below meth c D clM 24 a (ceM a q) 3 (MQ below (va_Qi Q (AtC D clM 24 a (ceM a q)) (inW a 24)) args s 0 0 (inW a 24)) h 47 [(0, .ref (a 0)), (1, .int x1), (2, .int x2)] [] := by
  unfold bp_M_enabled_47 at hw
  refine z_iload_n (pc := 47) X 1 d_M_enabled_47 rfl rfl ?_
  refine z_istore_n (pc := 48) X d_M_enabled_48 rfl (by decide) rfl ?_
  refine z_iinc (v := (x2 + 1)) (pc := 49) X 2 d_M_enabled_49 rfl rfl (by decide) rfl ?_
  refine z_goto (tgt := 8) (pc := 52) X d_M_enabled_52 (by decide) ?_
  exact z_to [2, 1, 0] rfl (hK8 _ _ _ hw)
set_option maxHeartbeats 4000000 in
set_option maxRecDepth 100000 in
theorem kb_M_enabled_8 {Q : Int32 → RS → Prop} (X : Cx p l R s m args meth c b_M_enabled 3 R_M (some .int) D clM (tyM q) a 24 3 81 tbW) {K8 : RS → Int32 → Int32 → Prop} (hK8 : ∀ (h : RS) (x1 : Int32) (x2 : Int32), K8 h x1 x2 → Z p l e R s m args below meth c D clM 24 a (ceM a q) 3 (MQ below (va_Qi Q (AtC D clM 24 a (ceM a q)) (inW a 24)) args s 0 0 (inW a 24)) h 8 [(0, .ref (a 0)), (1, .int x1), (2, .int x2)] []) {h : RS} {x1 : Int32} {x2 : Int32} (hw : bp_M_enabled_8 K8 Q h x1 x2) : Z p l e R s m args below meth c D clM 24 a (ceM a q) 3 (MQ below (va_Qi Q (AtC D clM 24 a (ceM a q)) (inW a 24)) args s 0 0 (inW a 24)) h 8 [(0, .ref (a 0)), (1, .int x1), (2, .int x2)] [] := by
  unfold bp_M_enabled_8 at hw
  refine z_iload_n (pc := 8) X 2 d_M_enabled_8 rfl rfl ?_
  refine z_aload_n (pc := 9) X 0 d_M_enabled_9 rfl rfl ?_
  refine z_get (i := 0) (pc := 10) X (by decide) (cM_M _) rfl hin_M 2 (by decide) lk160 rfl rfl d_M_enabled_10 ?_
  refine z_icmp_ge (tgt := 55) (pc := 13) X d_M_enabled_13 (by decide) (fun hc => ?_) (fun hc => ?_)
  · have hw := hw.1 hc
    refine z_iload_n (pc := 55) X 1 d_M_enabled_55 rfl rfl ?_
    exact z_iret (pc := 56) X d_M_enabled_56 hw
  · have hw := hw.2 hc
    refine z_aload_n (pc := 16) X 0 d_M_enabled_16 rfl rfl ?_
    refine z_get (i := 0) (pc := 17) X (by decide) (cM_M _) rfl hin_M 15 (by decide) lk157 rfl rfl d_M_enabled_17 ?_
    refine z_if_eq (tgt := 55) (pc := 20) X d_M_enabled_20 (by decide) (fun hc => ?_) (fun hc => ?_)
    · have hw := hw.1 hc
      refine z_iload_n (pc := 55) X 1 d_M_enabled_55 rfl rfl ?_
      exact z_iret (pc := 56) X d_M_enabled_56 hw
    · have hw := hw.2 hc
      refine z_aload_n (pc := 23) X 0 d_M_enabled_23 rfl rfl ?_
      refine z_iload_n (pc := 24) X 2 d_M_enabled_24 rfl rfl ?_
      refine z_cVi (i := 0) (pc := 25) X [.int _] (c_M_room X.2.2.2.2.2.2.2.2.1 hw) (by decide) (by decide) lk225 cd_M_room lk163 lk226 lk227 (by decide) (cM_M _) rfl nm_M_room rfl rfl (Nat.le_of_ble_eq_true rfl) d_M_enabled_25 (fun r1 h2 hw => ?_)
      refine z_if_eq (tgt := 47) (pc := 28) X d_M_enabled_28 (by decide) (fun hc => ?_) (fun hc => ?_)
      · have hw := hw.1 hc
        exact z_to [0, 1, 2] rfl (kb_M_enabled_47 X hK8 hw)
      · have hw := hw.2 hc
        refine z_aload_n (pc := 31) X 0 d_M_enabled_31 rfl rfl ?_
        refine z_iload_n (pc := 32) X 2 d_M_enabled_32 rfl rfl ?_
        refine z_cVi (i := 0) (pc := 33) X [.int _] (c_M_find X.2.2.2.2.2.2.2.2.1 hw) (by decide) (by decide) lk228 cd_M_find lk163 lk229 lk230 (by decide) (cM_M _) rfl nm_M_find rfl rfl (Nat.le_of_ble_eq_true rfl) d_M_enabled_33 (fun r3 h4 hw => ?_)
        refine z_if_eq (tgt := 47) (pc := 36) X d_M_enabled_36 (by decide) (fun hc => ?_) (fun hc => ?_)
        · have hw := hw.1 hc
          exact z_to [0, 1, 2] rfl (kb_M_enabled_47 X hK8 hw)
        · have hw := hw.2 hc
          refine z_iload_n (pc := 39) X 1 d_M_enabled_39 rfl rfl ?_
          refine z_iconst (v := (1 : Int32)) (pc := 40) X d_M_enabled_40 (by decide) ?_
          refine z_iload_n (pc := 41) X 2 d_M_enabled_41 rfl rfl ?_
          refine z_ishl (pc := 42) X d_M_enabled_42 ?_
          refine z_iadd (pc := 43) X d_M_enabled_43 ?_
          refine z_goto (tgt := 48) (pc := 44) X d_M_enabled_44 (by decide) ?_
          refine z_istore_n (pc := 48) X d_M_enabled_48 rfl (by decide) rfl ?_
          refine z_iinc (v := (x2 + 1)) (pc := 49) X 2 d_M_enabled_49 rfl rfl (by decide) rfl ?_
          refine z_goto (tgt := 8) (pc := 52) X d_M_enabled_52 (by decide) ?_
          exact z_to [2, 1, 0] rfl (hK8 _ _ _ hw)
theorem kl_M_enabled_8 {Q : Int32 → RS → Prop} (X : Cx p l R s m args meth c b_M_enabled 3 R_M (some .int) D clM (tyM q) a 24 3 81 tbW) : ∀ (n : Nat) (h : RS) (x1 : Int32) (x2 : Int32), wp_M_enabled_8 Q n h x1 x2 → Z p l e R s m args below meth c D clM 24 a (ceM a q) 3 (MQ below (va_Qi Q (AtC D clM 24 a (ceM a q)) (inW a 24)) args s 0 0 (inW a 24)) h 8 [(0, .ref (a 0)), (1, .int x1), (2, .int x2)] [] := by
  intro n
  induction n with
  | zero =>
    intro h x1 x2 hw
    exact hw.elim
  | succ n ih =>
    intro h x1 x2 hw
    exact kb_M_enabled_8 X ih hw
set_option maxHeartbeats 4000000 in
set_option maxRecDepth 100000 in
theorem kb_M_enabled_0 {Q : Int32 → RS → Prop} (X : Cx p l R s m args meth c b_M_enabled 3 R_M (some .int) D clM (tyM q) a 24 3 81 tbW) {h : RS} (hw : bp_M_enabled_0 Q h) : Z p l e R s m args below meth c D clM 24 a (ceM a q) 3 (MQ below (va_Qi Q (AtC D clM 24 a (ceM a q)) (inW a 24)) args s 0 0 (inW a 24)) h 0 [(0, .ref (a 0))] [] := by
  unfold bp_M_enabled_0 at hw
  refine z_aload_n (pc := 0) X 0 d_M_enabled_0 rfl rfl ?_
  refine z_cVv (i := 0) (pc := 1) X [] (c_M_gather X.2.2.2.2.2.2.2.2.1 hw) (by decide) (by decide) lk199 cd_M_gather lk163 lk200 lk201 (by decide) (cM_M _) rfl nm_M_gather rfl rfl (Nat.le_of_ble_eq_true rfl) d_M_enabled_1 (fun h5 hw => ?_)
  refine z_iconst (v := (0 : Int32)) (pc := 4) X d_M_enabled_4 (by decide) ?_
  refine z_istore_n (pc := 5) X d_M_enabled_5 rfl (by decide) rfl ?_
  refine z_iconst (v := (0 : Int32)) (pc := 6) X d_M_enabled_6 (by decide) ?_
  refine z_istore_n (pc := 7) X d_M_enabled_7 rfl (by decide) rfl ?_
  obtain ⟨n6, hw⟩ := hw
  exact z_to [2, 1, 0] rfl (kl_M_enabled_8 X n6 _ _ _ hw)
theorem c_M_enabled {l : Launch} {D : va_G} {a : Nat → Nat} {q : Nat → ClassId} (hI : injW a 24) {h : RS} {Q : Int32 → RS → Prop} (hw : wp_M_enabled h Q) : Met l y_M_enabled [.code y_M_enabled b_M_enabled 3 (some .int)] { frames := 3, cells := 0, slots := 0, locals := 81 } (va_Pc [.ref (a 0)] (PreC tbW D clM (tyM q) 24 a (ceM a q) h)) (va_Qi Q (AtC D clM 24 a (ceM a q)) (inW a 24)) 0 0 (inW a 24) :=
  m_of (by decide +kernel) hI tb_ok (Nat.le_of_ble_eq_true rfl) (fun p e R s m below meth c X => kb_M_enabled_0 X hw)
set_option maxHeartbeats 4000000 in
set_option maxRecDepth 100000 in
theorem kb_M_next_32 {Q : Int32 → RS → Prop} (X : Cx p l R s m args meth c b_M_next 5 R_M (some .int) D clM (tyM q) a 24 4 103 tbW) {K32 : RS → Int32 → Int32 → Int32 → Prop} (hK32 : ∀ (h : RS) (x1 : Int32) (x2 : Int32) (x3 : Int32), K32 h x1 x2 x3 → Z p l e R s m args below meth c D clM 24 a (ceM a q) 5 (MQ below (va_Qi Q (AtC D clM 24 a (ceM a q)) (inW a 24)) args s 0 0 (inW a 24)) h 32 [(0, .ref (a 0)), (1, .int x1), (2, .int x2), (3, .int x3)] []) {h : RS} {x1 : Int32} {x2 : Int32} {x3 : Int32} (hw : bp_M_next_32 K32 Q h x1 x2 x3) : Z p l e R s m args below meth c D clM 24 a (ceM a q) 5 (MQ below (va_Qi Q (AtC D clM 24 a (ceM a q)) (inW a 24)) args s 0 0 (inW a 24)) h 32 [(0, .ref (a 0)), (1, .int x1), (2, .int x2), (3, .int x3)] [] := by
  unfold bp_M_next_32 at hw
  refine z_iload_n (pc := 32) X 3 d_M_next_32 rfl rfl ?_
  refine z_aload_n (pc := 33) X 0 d_M_next_33 rfl rfl ?_
  refine z_get (i := 0) (pc := 34) X (by decide) (cM_M _) rfl hin_M 2 (by decide) lk160 rfl rfl d_M_next_34 ?_
  refine z_icmp_ge (tgt := 69) (pc := 37) X d_M_next_37 (by decide) (fun hc => ?_) (fun hc => ?_)
  · have hw := hw.1 hc
    refine z_iconst (v := (-1 : Int32)) (pc := 69) X d_M_next_69 (by decide) ?_
    exact z_iret (pc := 70) X d_M_next_70 hw
  · have hw := hw.2 hc
    refine z_iload_n (pc := 40) X 2 d_M_next_40 rfl rfl ?_
    refine z_iload_n (pc := 41) X 3 d_M_next_41 rfl rfl ?_
    refine z_iadd (pc := 42) X d_M_next_42 ?_
    refine z_aload_n (pc := 43) X 0 d_M_next_43 rfl rfl ?_
    refine z_get (i := 0) (pc := 44) X (by decide) (cM_M _) rfl hin_M 2 (by decide) lk160 rfl rfl d_M_next_44 ?_
    obtain ⟨hne, hw⟩ := hw
    refine z_irem (pc := 47) X d_M_next_47 hne ?_
    refine z_istore (pc := 48) X d_M_next_48 (by decide) rfl ?_
    refine z_iload_n (pc := 50) X 2 d_M_next_50 rfl rfl ?_
    refine z_iload (pc := 51) X 0 d_M_next_51 rfl ?_
    refine z_ishr (pc := 53) X d_M_next_53 ?_
    refine z_iconst (v := (1 : Int32)) (pc := 54) X d_M_next_54 (by decide) ?_
    refine z_iand (pc := 55) X d_M_next_55 ?_
    refine z_iconst (v := (1 : Int32)) (pc := 56) X d_M_next_56 (by decide) ?_
    refine z_icmp_ne (tgt := 63) (pc := 57) X d_M_next_57 (by decide) (fun hc => ?_) (fun hc => ?_)
    · have hw := hw.1 hc
      refine z_iinc (v := (x3 + 1)) (pc := 63) X 4 d_M_next_63 rfl rfl (by decide) rfl ?_
      refine z_goto (tgt := 32) (pc := 66) X d_M_next_66 (by decide) ?_
      exact z_to [2, 3, 4, 0] rfl (hK32 _ _ _ _ hw)
    · have hw := hw.2 hc
      refine z_iload (pc := 60) X 0 d_M_next_60 rfl ?_
      exact z_iret (pc := 62) X d_M_next_62 hw
theorem kl_M_next_32 {Q : Int32 → RS → Prop} (X : Cx p l R s m args meth c b_M_next 5 R_M (some .int) D clM (tyM q) a 24 4 103 tbW) : ∀ (n : Nat) (h : RS) (x1 : Int32) (x2 : Int32) (x3 : Int32), wp_M_next_32 Q n h x1 x2 x3 → Z p l e R s m args below meth c D clM 24 a (ceM a q) 5 (MQ below (va_Qi Q (AtC D clM 24 a (ceM a q)) (inW a 24)) args s 0 0 (inW a 24)) h 32 [(0, .ref (a 0)), (1, .int x1), (2, .int x2), (3, .int x3)] [] := by
  intro n
  induction n with
  | zero =>
    intro h x1 x2 x3 hw
    exact hw.elim
  | succ n ih =>
    intro h x1 x2 x3 hw
    exact kb_M_next_32 X ih hw
set_option maxHeartbeats 4000000 in
set_option maxRecDepth 100000 in
theorem kb_M_next_29 {Q : Int32 → RS → Prop} (X : Cx p l R s m args meth c b_M_next 5 R_M (some .int) D clM (tyM q) a 24 4 103 tbW) {h : RS} {x1 : Int32} {y0 : Int32} (hw : bp_M_next_29 Q h x1 y0) : Z p l e R s m args below meth c D clM 24 a (ceM a q) 5 (MQ below (va_Qi Q (AtC D clM 24 a (ceM a q)) (inW a 24)) args s 0 0 (inW a 24)) h 29 [(0, .ref (a 0)), (1, .int x1)] [.int y0] := by
  unfold bp_M_next_29 at hw
  refine z_istore_n (pc := 29) X d_M_next_29 rfl (by decide) rfl ?_
  refine z_iconst (v := (0 : Int32)) (pc := 30) X d_M_next_30 (by decide) ?_
  refine z_istore_n (pc := 31) X d_M_next_31 rfl (by decide) rfl ?_
  obtain ⟨n1, hw⟩ := hw
  exact z_to [2, 3, 1, 0] rfl (kl_M_next_32 X n1 _ _ _ _ hw)
set_option maxHeartbeats 4000000 in
set_option maxRecDepth 100000 in
theorem kb_M_next_0 {Q : Int32 → RS → Prop} (X : Cx p l R s m args meth c b_M_next 5 R_M (some .int) D clM (tyM q) a 24 4 103 tbW) {h : RS} (hw : bp_M_next_0 Q h) : Z p l e R s m args below meth c D clM 24 a (ceM a q) 5 (MQ below (va_Qi Q (AtC D clM 24 a (ceM a q)) (inW a 24)) args s 0 0 (inW a 24)) h 0 [(0, .ref (a 0))] [] := by
  unfold bp_M_next_0 at hw
  refine z_aload_n (pc := 0) X 0 d_M_next_0 rfl rfl ?_
  refine z_cVi (i := 0) (pc := 1) X [] (c_M_enabled X.2.2.2.2.2.2.2.2.1 hw) (by decide) (by decide) lk231 cd_M_enabled lk163 lk232 lk233 (by decide) (cM_M _) rfl nm_M_enabled rfl rfl (Nat.le_of_ble_eq_true rfl) d_M_next_1 (fun r2 h3 hw => ?_)
  refine z_istore_n (pc := 4) X d_M_next_4 rfl (by decide) rfl ?_
  refine z_aload_n (pc := 5) X 1 d_M_next_5 rfl rfl ?_
  refine z_get (i := 0) (pc := 6) X (by decide) (cM_M _) rfl hin_M 22 (by decide) lk234 rfl rfl d_M_next_6 ?_
  refine z_if_ne (tgt := 16) (pc := 9) X d_M_next_9 (by decide) (fun hc => ?_) (fun hc => ?_)
  · have hw := hw.1 hc
    refine z_aload_n (pc := 16) X 1 d_M_next_16 rfl rfl ?_
    refine z_get (i := 0) (pc := 17) X (by decide) (cM_M _) rfl hin_M 23 (by decide) lk235 rfl rfl d_M_next_17 ?_
    refine z_aload_n (pc := 20) X 1 d_M_next_20 rfl rfl ?_
    refine z_get (i := 0) (pc := 21) X (by decide) (cM_M _) rfl hin_M 22 (by decide) lk234 rfl rfl d_M_next_21 ?_
    refine z_iconst (v := (1 : Int32)) (pc := 24) X d_M_next_24 (by decide) ?_
    refine z_isub (pc := 25) X d_M_next_25 ?_
    obtain ⟨k4, hk4, ek4, hw⟩ := hw
    refine z_iald (i := 19) (pc := 26) X 0 (by decide) (cM__firedBy _) rfl (by decide) hk4 ek4 d_M_next_26 ?_
    refine z_iconst (v := (1 : Int32)) (pc := 27) X d_M_next_27 (by decide) ?_
    refine z_iadd (pc := 28) X d_M_next_28 ?_
    exact z_to [1, 0] rfl (kb_M_next_29 X hw)
  · have hw := hw.2 hc
    refine z_iconst (v := (0 : Int32)) (pc := 12) X d_M_next_12 (by decide) ?_
    refine z_goto (tgt := 29) (pc := 13) X d_M_next_13 (by decide) ?_
    exact z_to [1, 0] rfl (kb_M_next_29 X hw)
theorem c_M_next {l : Launch} {D : va_G} {a : Nat → Nat} {q : Nat → ClassId} (hI : injW a 24) {h : RS} {Q : Int32 → RS → Prop} (hw : wp_M_next h Q) : Met l y_M_next [.code y_M_next b_M_next 5 (some .int)] { frames := 4, cells := 0, slots := 0, locals := 103 } (va_Pc [.ref (a 0)] (PreC tbW D clM (tyM q) 24 a (ceM a q) h)) (va_Qi Q (AtC D clM 24 a (ceM a q)) (inW a 24)) 0 0 (inW a 24) :=
  m_of (by decide +kernel) hI tb_ok (Nat.le_of_ble_eq_true rfl) (fun p e R s m below meth c X => kb_M_next_0 X hw)
end
