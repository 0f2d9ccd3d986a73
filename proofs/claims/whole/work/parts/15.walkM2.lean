section
variable {p : Program} {l : Launch} {e : Env} {R : Room} {s : State} {m : MethodId} {args : Array Value} {below : List Frame} {meth : Method} {c : Code} {D : va_G} {a : Nat → Nat} {q : Nat → ClassId}
set_option maxHeartbeats 4000000 in
set_option maxRecDepth 100000 in
theorem kb_M_seal_132 {Q : Int32 → RS → Prop} (X : Cx p l R s m args meth c b_M_seal 5 R_M (some .int) D clM (tyM q) a 24 1 24 tbW) {h : RS} {x2 : Int32} {y1 : Int32} (hw : bp_M_seal_132 Q h x2 y1) : Z p l e R s m args below meth c D clM 24 a (ceM a q) 5 (MQ below (va_Qi Q (AtC D clM 24 a (ceM a q)) (inW a 24)) args s 0 0 (inW a 24)) h 132 [(2, .int x2)] [.int y1, .ref (a 0)] := by
  unfold bp_M_seal_132 at hw
  obtain ⟨hB, hw⟩ := hw
  refine z_put (i := 0) (pc := 132) X (by decide) (cM_M _) rfl hin_M t_M t_M_ok n_M 15 (by decide) lk157 rfl rfl (t_M_ok 15 (by decide)) (isB_n hB) (isB_f hB) (Nat.le_of_ble_eq_true rfl) (cM_M _) d_M_seal_132 ?_
  have hw := hw _ rfl
  refine z_iload_n (pc := 135) X 0 d_M_seal_135 rfl rfl ?_
  refine z_if_eq (tgt := 143) (pc := 136) X d_M_seal_136 (by decide) (fun hc => ?_) (fun hc => ?_)
  · have hw := hw.1 hc
    refine z_iconst (v := (0 : Int32)) (pc := 143) X d_M_seal_143 (by decide) ?_
    exact z_iret (pc := 144) X d_M_seal_144 hw
  · have hw := hw.2 hc
    refine z_iconst (v := (4 : Int32)) (pc := 139) X d_M_seal_139 (by decide) ?_
    refine z_goto (tgt := 144) (pc := 140) X d_M_seal_140 (by decide) ?_
    exact z_iret (pc := 144) X d_M_seal_144 hw
set_option maxHeartbeats 4000000 in
set_option maxRecDepth 100000 in
theorem kb_M_seal_102 {Q : Int32 → RS → Prop} (X : Cx p l R s m args meth c b_M_seal 5 R_M (some .int) D clM (tyM q) a 24 1 24 tbW) {K24 : RS → Int32 → Int32 → Int32 → Prop} (hK24 : ∀ (h : RS) (x1 : Int32) (x2 : Int32) (x3 : Int32), K24 h x1 x2 x3 → Z p l e R s m args below meth c D clM 24 a (ceM a q) 5 (MQ below (va_Qi Q (AtC D clM 24 a (ceM a q)) (inW a 24)) args s 0 0 (inW a 24)) h 24 [(0, .ref (a 0)), (1, .int x1), (2, .int x2), (3, .int x3)] []) {K54 : RS → Int32 → Int32 → Int32 → Int32 → Prop} (hK54 : ∀ (h : RS) (x1 : Int32) (x2 : Int32) (x3 : Int32) (x4 : Int32), K54 h x1 x2 x3 x4 → Z p l e R s m args below meth c D clM 24 a (ceM a q) 5 (MQ below (va_Qi Q (AtC D clM 24 a (ceM a q)) (inW a 24)) args s 0 0 (inW a 24)) h 54 [(0, .ref (a 0)), (1, .int x1), (2, .int x2), (3, .int x3), (4, .int x4)] []) {h : RS} {x1 : Int32} {x3 : Int32} {x4 : Int32} (hw : bp_M_seal_102 K24 K54 Q h x1 x3 x4) : Z p l e R s m args below meth c D clM 24 a (ceM a q) 5 (MQ below (va_Qi Q (AtC D clM 24 a (ceM a q)) (inW a 24)) args s 0 0 (inW a 24)) h 102 [(0, .ref (a 0)), (1, .int x1), (3, .int x3), (4, .int x4)] [] := by
  unfold bp_M_seal_102 at hw
  refine z_iconst (v := (0 : Int32)) (pc := 102) X d_M_seal_102 (by decide) ?_
  refine z_istore_n (pc := 103) X d_M_seal_103 rfl (by decide) rfl ?_
  refine z_iinc (v := (x4 + 1)) (pc := 104) X 4 d_M_seal_104 rfl rfl (by decide) rfl ?_
  refine z_goto (tgt := 54) (pc := 107) X d_M_seal_107 (by decide) ?_
  exact z_to [2, 3, 1, 4, 0] rfl (hK54 _ _ _ _ _ hw)
set_option maxHeartbeats 4000000 in
set_option maxRecDepth 100000 in
theorem kb_M_seal_98 {Q : Int32 → RS → Prop} (X : Cx p l R s m args meth c b_M_seal 5 R_M (some .int) D clM (tyM q) a 24 1 24 tbW) {K24 : RS → Int32 → Int32 → Int32 → Prop} (hK24 : ∀ (h : RS) (x1 : Int32) (x2 : Int32) (x3 : Int32), K24 h x1 x2 x3 → Z p l e R s m args below meth c D clM 24 a (ceM a q) 5 (MQ below (va_Qi Q (AtC D clM 24 a (ceM a q)) (inW a 24)) args s 0 0 (inW a 24)) h 24 [(0, .ref (a 0)), (1, .int x1), (2, .int x2), (3, .int x3)] []) {K54 : RS → Int32 → Int32 → Int32 → Int32 → Prop} (hK54 : ∀ (h : RS) (x1 : Int32) (x2 : Int32) (x3 : Int32) (x4 : Int32), K54 h x1 x2 x3 x4 → Z p l e R s m args below meth c D clM 24 a (ceM a q) 5 (MQ below (va_Qi Q (AtC D clM 24 a (ceM a q)) (inW a 24)) args s 0 0 (inW a 24)) h 54 [(0, .ref (a 0)), (1, .int x1), (2, .int x2), (3, .int x3), (4, .int x4)] []) {h : RS} {x1 : Int32} {x3 : Int32} {x4 : Int32} (hw : bp_M_seal_98 K24 K54 Q h x1 x3 x4) : Z p l e R s m args below meth c D clM 24 a (ceM a q) 5 (MQ below (va_Qi Q (AtC D clM 24 a (ceM a q)) (inW a 24)) args s 0 0 (inW a 24)) h 98 [(0, .ref (a 0)), (1, .int x1), (3, .int x3), (4, .int x4)] [] := by
  unfold bp_M_seal_98 at hw
  refine z_iconst (v := (1 : Int32)) (pc := 98) X d_M_seal_98 (by decide) ?_
  refine z_goto (tgt := 103) (pc := 99) X d_M_seal_99 (by decide) ?_
  refine z_istore_n (pc := 103) X d_M_seal_103 rfl (by decide) rfl ?_
  refine z_iinc (v := (x4 + 1)) (pc := 104) X 4 d_M_seal_104 rfl rfl (by decide) rfl ?_
  refine z_goto (tgt := 54) (pc := 107) X d_M_seal_107 (by decide) ?_
  exact z_to [2, 3, 1, 4, 0] rfl (hK54 _ _ _ _ _ hw)
set_option maxHeartbeats 4000000 in
set_option maxRecDepth 100000 in
theorem kb_M_seal_54 {Q : Int32 → RS → Prop} (X : Cx p l R s m args meth c b_M_seal 5 R_M (some .int) D clM (tyM q) a 24 1 24 tbW) {K24 : RS → Int32 → Int32 → Int32 → Prop} (hK24 : ∀ (h : RS) (x1 : Int32) (x2 : Int32) (x3 : Int32), K24 h x1 x2 x3 → Z p l e R s m args below meth c D clM 24 a (ceM a q) 5 (MQ below (va_Qi Q (AtC D clM 24 a (ceM a q)) (inW a 24)) args s 0 0 (inW a 24)) h 24 [(0, .ref (a 0)), (1, .int x1), (2, .int x2), (3, .int x3)] []) {K54 : RS → Int32 → Int32 → Int32 → Int32 → Prop} (hK54 : ∀ (h : RS) (x1 : Int32) (x2 : Int32) (x3 : Int32) (x4 : Int32), K54 h x1 x2 x3 x4 → Z p l e R s m args below meth c D clM 24 a (ceM a q) 5 (MQ below (va_Qi Q (AtC D clM 24 a (ceM a q)) (inW a 24)) args s 0 0 (inW a 24)) h 54 [(0, .ref (a 0)), (1, .int x1), (2, .int x2), (3, .int x3), (4, .int x4)] []) {h : RS} {x1 : Int32} {x2 : Int32} {x3 : Int32} {x4 : Int32} (hw : bp_M_seal_54 K24 K54 Q h x1 x2 x3 x4) : Z p l e R s m args below meth c D clM 24 a (ceM a q) 5 (MQ below (va_Qi Q (AtC D clM 24 a (ceM a q)) (inW a 24)) args s 0 0 (inW a 24)) h 54 [(0, .ref (a 0)), (1, .int x1), (2, .int x2), (3, .int x3), (4, .int x4)] [] := by
  unfold bp_M_seal_54 at hw
  refine z_iload (pc := 54) X 4 d_M_seal_54 rfl ?_
  refine z_aload_n (pc := 56) X 0 d_M_seal_56 rfl rfl ?_
  refine z_get (i := 0) (pc := 57) X (by decide) (cM_M _) rfl hin_M 3 (by decide) lk161 rfl rfl d_M_seal_57 ?_
  refine z_iload_n (pc := 60) X 3 d_M_seal_60 rfl rfl ?_
  obtain ⟨k2, hk2, ek2, hw⟩ := hw
  refine z_iald (i := 2) (pc := 61) X 0 (by decide) (cM__parts _) rfl (by decide) hk2 ek2 d_M_seal_61 ?_
  refine z_icmp_ge (tgt := 110) (pc := 62) X d_M_seal_62 (by decide) (fun hc => ?_) (fun hc => ?_)
  · have hw := hw.1 hc
    refine z_iinc (v := (x3 + 1)) (pc := 110) X 3 d_M_seal_110 rfl rfl (by decide) rfl ?_
    refine z_goto (tgt := 24) (pc := 113) X d_M_seal_113 (by decide) ?_
    exact z_to [1, 2, 3, 0] rfl (hK24 _ _ _ _ hw)
  · have hw := hw.2 hc
    refine z_iload_n (pc := 65) X 2 d_M_seal_65 rfl rfl ?_
    refine z_if_ne (tgt := 98) (pc := 66) X d_M_seal_66 (by decide) (fun hc => ?_) (fun hc => ?_)
    · have hw := hw.1 hc
      exact z_to [0, 1, 3, 4] rfl (kb_M_seal_98 X hK24 hK54 hw)
    · have hw := hw.2 hc
      refine z_aload_n (pc := 69) X 0 d_M_seal_69 rfl rfl ?_
      refine z_get (i := 0) (pc := 70) X (by decide) (cM_M _) rfl hin_M 1 (by decide) lk159 rfl rfl d_M_seal_70 ?_
      refine z_aload_n (pc := 73) X 0 d_M_seal_73 rfl rfl ?_
      refine z_get (i := 0) (pc := 74) X (by decide) (cM_M _) rfl hin_M 4 (by decide) lk169 rfl rfl d_M_seal_74 ?_
      refine z_iconst (v := (4 : Int32)) (pc := 77) X d_M_seal_77 (by decide) ?_
      refine z_iload_n (pc := 78) X 3 d_M_seal_78 rfl rfl ?_
      refine z_imul (pc := 79) X d_M_seal_79 ?_
      refine z_iload (pc := 80) X 4 d_M_seal_80 rfl ?_
      refine z_iadd (pc := 82) X d_M_seal_82 ?_
      obtain ⟨k3, hk3, ek3, hw⟩ := hw
      refine z_iald (i := 3) (pc := 83) X 0 (by decide) (cM__partChannel _) rfl (by decide) hk3 ek3 d_M_seal_83 ?_
      obtain ⟨k4, hk4, ek4, hw⟩ := hw
      refine z_zald (i := 1) (pc := 84) X 1 (by decide) (cM__answered _) rfl (by decide) hk4 ek4 d_M_seal_84 ?_
      refine z_if_eq (tgt := 102) (pc := 85) X d_M_seal_85 (by decide) (fun hc => ?_) (fun hc => ?_)
      · have hw := hw.1 hc
        exact z_to [0, 1, 3, 4] rfl (kb_M_seal_102 X hK24 hK54 hw)
      · have hw := hw.2 hc
        refine z_aload_n (pc := 88) X 0 d_M_seal_88 rfl rfl ?_
        refine z_iload_n (pc := 89) X 3 d_M_seal_89 rfl rfl ?_
        refine z_iload (pc := 90) X 4 d_M_seal_90 rfl ?_
        refine z_cVi (i := 0) (pc := 92) X [.int _, .int _] (c_M_answersPart X.2.2.2.2.2.2.2.2.1 hw) (by decide) (by decide) lk189 cd_M_answersPart lk163 lk190 lk191 (by decide) (cM_M _) rfl nm_M_answersPart rfl rfl (Nat.le_of_ble_eq_true rfl) d_M_seal_92 (fun r5 h6 hw => ?_)
        refine z_if_ne (tgt := 102) (pc := 95) X d_M_seal_95 (by decide) (fun hc => ?_) (fun hc => ?_)
        · have hw := hw.1 hc
          exact z_to [0, 1, 3, 4] rfl (kb_M_seal_102 X hK24 hK54 hw)
        · have hw := hw.2 hc
          exact z_to [0, 1, 3, 4] rfl (kb_M_seal_98 X hK24 hK54 hw)
theorem kl_M_seal_54 {Q : Int32 → RS → Prop} (X : Cx p l R s m args meth c b_M_seal 5 R_M (some .int) D clM (tyM q) a 24 1 24 tbW) {K24 : RS → Int32 → Int32 → Int32 → Prop} (hK24 : ∀ (h : RS) (x1 : Int32) (x2 : Int32) (x3 : Int32), K24 h x1 x2 x3 → Z p l e R s m args below meth c D clM 24 a (ceM a q) 5 (MQ below (va_Qi Q (AtC D clM 24 a (ceM a q)) (inW a 24)) args s 0 0 (inW a 24)) h 24 [(0, .ref (a 0)), (1, .int x1), (2, .int x2), (3, .int x3)] []) : ∀ (n : Nat) (h : RS) (x1 : Int32) (x2 : Int32) (x3 : Int32) (x4 : Int32), wp_M_seal_54 K24 Q n h x1 x2 x3 x4 → Z p l e R s m args below meth c D clM 24 a (ceM a q) 5 (MQ below (va_Qi Q (AtC D clM 24 a (ceM a q)) (inW a 24)) args s 0 0 (inW a 24)) h 54 [(0, .ref (a 0)), (1, .int x1), (2, .int x2), (3, .int x3), (4, .int x4)] [] := by
  intro n
  induction n with
  | zero =>
    intro h x1 x2 x3 x4 hw
    exact hw.elim
  | succ n ih =>
    intro h x1 x2 x3 x4 hw
    exact kb_M_seal_54 X hK24 ih hw
set_option maxHeartbeats 4000000 in
set_option maxRecDepth 100000 in
theorem kb_M_seal_50 {Q : Int32 → RS → Prop} (X : Cx p l R s m args meth c b_M_seal 5 R_M (some .int) D clM (tyM q) a 24 1 24 tbW) {K24 : RS → Int32 → Int32 → Int32 → Prop} (hK24 : ∀ (h : RS) (x1 : Int32) (x2 : Int32) (x3 : Int32), K24 h x1 x2 x3 → Z p l e R s m args below meth c D clM 24 a (ceM a q) 5 (MQ below (va_Qi Q (AtC D clM 24 a (ceM a q)) (inW a 24)) args s 0 0 (inW a 24)) h 24 [(0, .ref (a 0)), (1, .int x1), (2, .int x2), (3, .int x3)] []) {h : RS} {x2 : Int32} {x3 : Int32} {y0 : Int32} (hw : bp_M_seal_50 K24 Q h x2 x3 y0) : Z p l e R s m args below meth c D clM 24 a (ceM a q) 5 (MQ below (va_Qi Q (AtC D clM 24 a (ceM a q)) (inW a 24)) args s 0 0 (inW a 24)) h 50 [(0, .ref (a 0)), (2, .int x2), (3, .int x3)] [.int y0] := by
  unfold bp_M_seal_50 at hw
  refine z_istore_n (pc := 50) X d_M_seal_50 rfl (by decide) rfl ?_
  refine z_iconst (v := (0 : Int32)) (pc := 51) X d_M_seal_51 (by decide) ?_
  refine z_istore (pc := 52) X d_M_seal_52 (by decide) rfl ?_
  obtain ⟨n7, hw⟩ := hw
  exact z_to [2, 1, 3, 4, 0] rfl (kl_M_seal_54 X hK24 n7 _ _ _ _ _ hw)
set_option maxHeartbeats 4000000 in
set_option maxRecDepth 100000 in
theorem kb_M_seal_45 {Q : Int32 → RS → Prop} (X : Cx p l R s m args meth c b_M_seal 5 R_M (some .int) D clM (tyM q) a 24 1 24 tbW) {K24 : RS → Int32 → Int32 → Int32 → Prop} (hK24 : ∀ (h : RS) (x1 : Int32) (x2 : Int32) (x3 : Int32), K24 h x1 x2 x3 → Z p l e R s m args below meth c D clM 24 a (ceM a q) 5 (MQ below (va_Qi Q (AtC D clM 24 a (ceM a q)) (inW a 24)) args s 0 0 (inW a 24)) h 24 [(0, .ref (a 0)), (1, .int x1), (2, .int x2), (3, .int x3)] []) {h : RS} {x2 : Int32} {x3 : Int32} (hw : bp_M_seal_45 K24 Q h x2 x3) : Z p l e R s m args below meth c D clM 24 a (ceM a q) 5 (MQ below (va_Qi Q (AtC D clM 24 a (ceM a q)) (inW a 24)) args s 0 0 (inW a 24)) h 45 [(0, .ref (a 0)), (2, .int x2), (3, .int x3)] [] := by
  unfold bp_M_seal_45 at hw
  refine z_iconst (v := (1 : Int32)) (pc := 45) X d_M_seal_45 (by decide) ?_
  refine z_goto (tgt := 50) (pc := 46) X d_M_seal_46 (by decide) ?_
  exact z_to [0, 1, 2] rfl (kb_M_seal_50 X hK24 hw)
set_option maxHeartbeats 4000000 in
set_option maxRecDepth 100000 in
theorem kb_M_seal_24 {Q : Int32 → RS → Prop} (X : Cx p l R s m args meth c b_M_seal 5 R_M (some .int) D clM (tyM q) a 24 1 24 tbW) {K24 : RS → Int32 → Int32 → Int32 → Prop} (hK24 : ∀ (h : RS) (x1 : Int32) (x2 : Int32) (x3 : Int32), K24 h x1 x2 x3 → Z p l e R s m args below meth c D clM 24 a (ceM a q) 5 (MQ below (va_Qi Q (AtC D clM 24 a (ceM a q)) (inW a 24)) args s 0 0 (inW a 24)) h 24 [(0, .ref (a 0)), (1, .int x1), (2, .int x2), (3, .int x3)] []) {h : RS} {x1 : Int32} {x2 : Int32} {x3 : Int32} (hw : bp_M_seal_24 K24 Q h x1 x2 x3) : Z p l e R s m args below meth c D clM 24 a (ceM a q) 5 (MQ below (va_Qi Q (AtC D clM 24 a (ceM a q)) (inW a 24)) args s 0 0 (inW a 24)) h 24 [(0, .ref (a 0)), (1, .int x1), (2, .int x2), (3, .int x3)] [] := by
  unfold bp_M_seal_24 at hw
  refine z_iload_n (pc := 24) X 3 d_M_seal_24 rfl rfl ?_
  refine z_aload_n (pc := 25) X 0 d_M_seal_25 rfl rfl ?_
  refine z_get (i := 0) (pc := 26) X (by decide) (cM_M _) rfl hin_M 2 (by decide) lk160 rfl rfl d_M_seal_26 ?_
  refine z_icmp_ge (tgt := 116) (pc := 29) X d_M_seal_29 (by decide) (fun hc => ?_) (fun hc => ?_)
  · have hw := hw.1 hc
    refine z_iload_n (pc := 116) X 1 d_M_seal_116 rfl rfl ?_
    refine z_if_eq (tgt := 122) (pc := 117) X d_M_seal_117 (by decide) (fun hc => ?_) (fun hc => ?_)
    · have hw := hw.1 hc
      refine z_aload_n (pc := 122) X 0 d_M_seal_122 rfl rfl ?_
      refine z_iload_n (pc := 123) X 2 d_M_seal_123 rfl rfl ?_
      refine z_if_ne (tgt := 131) (pc := 124) X d_M_seal_124 (by decide) (fun hc => ?_) (fun hc => ?_)
      · have hw := hw.1 hc
        refine z_iconst (v := (0 : Int32)) (pc := 131) X d_M_seal_131 (by decide) ?_
        exact z_to [2] rfl (kb_M_seal_132 X hw)
      · have hw := hw.2 hc
        refine z_iconst (v := (1 : Int32)) (pc := 127) X d_M_seal_127 (by decide) ?_
        refine z_goto (tgt := 132) (pc := 128) X d_M_seal_128 (by decide) ?_
        exact z_to [2] rfl (kb_M_seal_132 X hw)
    · have hw := hw.2 hc
      refine z_iconst (v := (3 : Int32)) (pc := 120) X d_M_seal_120 (by decide) ?_
      exact z_iret (pc := 121) X d_M_seal_121 hw
  · have hw := hw.2 hc
    refine z_iload_n (pc := 32) X 1 d_M_seal_32 rfl rfl ?_
    refine z_if_ne (tgt := 45) (pc := 33) X d_M_seal_33 (by decide) (fun hc => ?_) (fun hc => ?_)
    · have hw := hw.1 hc
      exact z_to [0, 2, 3] rfl (kb_M_seal_45 X hK24 hw)
    · have hw := hw.2 hc
      refine z_aload_n (pc := 36) X 0 d_M_seal_36 rfl rfl ?_
      refine z_get (i := 0) (pc := 37) X (by decide) (cM_M _) rfl hin_M 3 (by decide) lk161 rfl rfl d_M_seal_37 ?_
      refine z_iload_n (pc := 40) X 3 d_M_seal_40 rfl rfl ?_
      obtain ⟨k8, hk8, ek8, hw⟩ := hw
      refine z_iald (i := 2) (pc := 41) X 0 (by decide) (cM__parts _) rfl (by decide) hk8 ek8 d_M_seal_41 ?_
      refine z_if_ne (tgt := 49) (pc := 42) X d_M_seal_42 (by decide) (fun hc => ?_) (fun hc => ?_)
      · have hw := hw.1 hc
        refine z_iconst (v := (0 : Int32)) (pc := 49) X d_M_seal_49 (by decide) ?_
        exact z_to [0, 2, 3] rfl (kb_M_seal_50 X hK24 hw)
      · have hw := hw.2 hc
        exact z_to [0, 2, 3] rfl (kb_M_seal_45 X hK24 hw)
theorem kl_M_seal_24 {Q : Int32 → RS → Prop} (X : Cx p l R s m args meth c b_M_seal 5 R_M (some .int) D clM (tyM q) a 24 1 24 tbW) : ∀ (n : Nat) (h : RS) (x1 : Int32) (x2 : Int32) (x3 : Int32), wp_M_seal_24 Q n h x1 x2 x3 → Z p l e R s m args below meth c D clM 24 a (ceM a q) 5 (MQ below (va_Qi Q (AtC D clM 24 a (ceM a q)) (inW a 24)) args s 0 0 (inW a 24)) h 24 [(0, .ref (a 0)), (1, .int x1), (2, .int x2), (3, .int x3)] [] := by
  intro n
  induction n with
  | zero =>
    intro h x1 x2 x3 hw
    exact hw.elim
  | succ n ih =>
    intro h x1 x2 x3 hw
    exact kb_M_seal_24 X ih hw
set_option maxHeartbeats 4000000 in
set_option maxRecDepth 100000 in
theorem kb_M_seal_0 {Q : Int32 → RS → Prop} (X : Cx p l R s m args meth c b_M_seal 5 R_M (some .int) D clM (tyM q) a 24 1 24 tbW) {h : RS} (hw : bp_M_seal_0 Q h) : Z p l e R s m args below meth c D clM 24 a (ceM a q) 5 (MQ below (va_Qi Q (AtC D clM 24 a (ceM a q)) (inW a 24)) args s 0 0 (inW a 24)) h 0 [(0, .ref (a 0))] [] := by
  unfold bp_M_seal_0 at hw
  refine z_aload_n (pc := 0) X 0 d_M_seal_0 rfl rfl ?_
  refine z_get (i := 0) (pc := 1) X (by decide) (cM_M _) rfl hin_M 15 (by decide) lk157 rfl rfl d_M_seal_1 ?_
  refine z_if_eq (tgt := 9) (pc := 4) X d_M_seal_4 (by decide) (fun hc => ?_) (fun hc => ?_)
  · have hw := hw.1 hc
    refine z_aload_n (pc := 9) X 0 d_M_seal_9 rfl rfl ?_
    refine z_get (i := 0) (pc := 10) X (by decide) (cM_M _) rfl hin_M 2 (by decide) lk160 rfl rfl d_M_seal_10 ?_
    refine z_if_ne (tgt := 18) (pc := 13) X d_M_seal_13 (by decide) (fun hc => ?_) (fun hc => ?_)
    · have hw := hw.1 hc
      refine z_iconst (v := (0 : Int32)) (pc := 18) X d_M_seal_18 (by decide) ?_
      refine z_istore_n (pc := 19) X d_M_seal_19 rfl (by decide) rfl ?_
      refine z_iconst (v := (0 : Int32)) (pc := 20) X d_M_seal_20 (by decide) ?_
      refine z_istore_n (pc := 21) X d_M_seal_21 rfl (by decide) rfl ?_
      refine z_iconst (v := (0 : Int32)) (pc := 22) X d_M_seal_22 (by decide) ?_
      refine z_istore_n (pc := 23) X d_M_seal_23 rfl (by decide) rfl ?_
      obtain ⟨n9, hw⟩ := hw
      exact z_to [3, 2, 1, 0] rfl (kl_M_seal_24 X n9 _ _ _ _ hw)
    · have hw := hw.2 hc
      refine z_iconst (v := (2 : Int32)) (pc := 16) X d_M_seal_16 (by decide) ?_
      exact z_iret (pc := 17) X d_M_seal_17 hw
  · have hw := hw.2 hc
    refine z_iconst (v := (1 : Int32)) (pc := 7) X d_M_seal_7 (by decide) ?_
    exact z_iret (pc := 8) X d_M_seal_8 hw
theorem c_M_seal {l : Launch} {D : va_G} {a : Nat → Nat} {q : Nat → ClassId} (hI : injW a 24) {h : RS} {Q : Int32 → RS → Prop} (hw : wp_M_seal h Q) : Met l y_M_seal [.code y_M_seal b_M_seal 5 (some .int)] { frames := 1, cells := 0, slots := 0, locals := 24 } (va_Pc [.ref (a 0)] (PreC tbW D clM (tyM q) 24 a (ceM a q) h)) (va_Qi Q (AtC D clM 24 a (ceM a q)) (inW a 24)) 0 0 (inW a 24) :=
  m_of (by decide +kernel) hI tb_ok (Nat.le_of_ble_eq_true rfl) (fun p e R s m below meth c X => kb_M_seal_0 X hw)
set_option maxHeartbeats 4000000 in
set_option maxRecDepth 100000 in
theorem kb_M_make_0 {Q : Int32 → RS → Prop} (X : Cx p l R s m args meth c b_M_make 3 R_M (some .int) D clM (tyM q) a 24 0 0 tbW) {h : RS} {x1 : Int32} {x2 : Int32} (hw : bp_M_make_0 Q h x1 x2) : Z p l e R s m args below meth c D clM 24 a (ceM a q) 3 (MQ below (va_Qi Q (AtC D clM 24 a (ceM a q)) (inW a 24)) args s 0 0 (inW a 24)) h 0 [(0, .ref (a 0)), (1, .int x1), (2, .int x2)] [] := by
  unfold bp_M_make_0 at hw
  refine z_aload_n (pc := 0) X 0 d_M_make_0 rfl rfl ?_
  refine z_get (i := 0) (pc := 1) X (by decide) (cM_M _) rfl hin_M 17 (by decide) lk192 rfl rfl d_M_make_1 ?_
  refine z_aload_n (pc := 4) X 0 d_M_make_4 rfl rfl ?_
  refine z_get (i := 0) (pc := 5) X (by decide) (cM_M _) rfl hin_M 16 (by decide) lk193 rfl rfl d_M_make_5 ?_
  refine z_iload_n (pc := 8) X 1 d_M_make_8 rfl rfl ?_
  obtain ⟨k1, hk1, ek1, hw⟩ := hw
  refine z_iast (i := 14) (pc := 9) X 0 (by decide) (fun g => (cM__channelOf g)) rfl (by decide) hk1 ek1 d_M_make_9 ?_
  have hw := hw _ rfl
  refine z_aload_n (pc := 10) X 0 d_M_make_10 rfl rfl ?_
  refine z_get (i := 0) (pc := 11) X (by decide) (cM_M _) rfl hin_M 18 (by decide) lk194 rfl rfl d_M_make_11 ?_
  refine z_aload_n (pc := 14) X 0 d_M_make_14 rfl rfl ?_
  refine z_get (i := 0) (pc := 15) X (by decide) (cM_M _) rfl hin_M 16 (by decide) lk193 rfl rfl d_M_make_15 ?_
  refine z_iload_n (pc := 18) X 2 d_M_make_18 rfl rfl ?_
  obtain ⟨k3, hk3, ek3, hw⟩ := hw
  refine z_iast (i := 15) (pc := 19) X 0 (by decide) (fun g => (cM__values g)) rfl (by decide) hk3 ek3 d_M_make_19 ?_
  have hw := hw _ rfl
  refine z_aload_n (pc := 20) X 0 d_M_make_20 rfl rfl ?_
  refine z_get (i := 0) (pc := 21) X (by decide) (cM_M _) rfl hin_M 19 (by decide) lk195 rfl rfl d_M_make_21 ?_
  refine z_aload_n (pc := 24) X 0 d_M_make_24 rfl rfl ?_
  refine z_get (i := 0) (pc := 25) X (by decide) (cM_M _) rfl hin_M 16 (by decide) lk193 rfl rfl d_M_make_25 ?_
  refine z_iconst (v := (1 : Int32)) (pc := 28) X d_M_make_28 (by decide) ?_
  obtain ⟨k5, hk5, ek5, hw⟩ := hw
  refine z_iast (i := 16) (pc := 29) X 0 (by decide) (fun g => (cM__states g)) rfl (by decide) hk5 ek5 d_M_make_29 ?_
  have hw := hw _ rfl
  refine z_aload_n (pc := 30) X 0 d_M_make_30 rfl rfl ?_
  refine z_get (i := 0) (pc := 31) X (by decide) (cM_M _) rfl hin_M 20 (by decide) lk196 rfl rfl d_M_make_31 ?_
  refine z_aload_n (pc := 34) X 0 d_M_make_34 rfl rfl ?_
  refine z_get (i := 0) (pc := 35) X (by decide) (cM_M _) rfl hin_M 16 (by decide) lk193 rfl rfl d_M_make_35 ?_
  refine z_iconst (v := (-1 : Int32)) (pc := 38) X d_M_make_38 (by decide) ?_
  obtain ⟨k7, hk7, ek7, hw⟩ := hw
  refine z_iast (i := 17) (pc := 39) X 0 (by decide) (fun g => (cM__consumers g)) rfl (by decide) hk7 ek7 d_M_make_39 ?_
  have hw := hw _ rfl
  refine z_aload_n (pc := 40) X 0 d_M_make_40 rfl rfl ?_
  refine z_aload_n (pc := 41) X 0 d_M_make_41 rfl rfl ?_
  refine z_get (i := 0) (pc := 42) X (by decide) (cM_M _) rfl hin_M 16 (by decide) lk193 rfl rfl d_M_make_42 ?_
  refine z_iconst (v := (1 : Int32)) (pc := 45) X d_M_make_45 (by decide) ?_
  refine z_iadd (pc := 46) X d_M_make_46 ?_
  refine z_put (i := 0) (pc := 47) X (by decide) (cM_M _) rfl hin_M t_M t_M_ok n_M 16 (by decide) lk193 rfl rfl (t_M_ok 16 (by decide)) rfl rfl (Nat.le_of_ble_eq_true rfl) (cM_M _) d_M_make_47 ?_
  have hw := hw _ rfl
  refine z_aload_n (pc := 50) X 0 d_M_make_50 rfl rfl ?_
  refine z_get (i := 0) (pc := 51) X (by decide) (cM_M _) rfl hin_M 16 (by decide) lk193 rfl rfl d_M_make_51 ?_
  refine z_iconst (v := (1 : Int32)) (pc := 54) X d_M_make_54 (by decide) ?_
  refine z_isub (pc := 55) X d_M_make_55 ?_
  exact z_iret (pc := 56) X d_M_make_56 hw
theorem c_M_make {l : Launch} {D : va_G} {a : Nat → Nat} {q : Nat → ClassId} (hI : injW a 24) {h : RS} {x1 : Int32} {x2 : Int32} {Q : Int32 → RS → Prop} (hw : wp_M_make h x1 x2 Q) : Met l y_M_make [.code y_M_make b_M_make 3 (some .int)] { frames := 0, cells := 0, slots := 0, locals := 0 } (va_Pc [.ref (a 0), .int x1, .int x2] (PreC tbW D clM (tyM q) 24 a (ceM a q) h)) (va_Qi Q (AtC D clM 24 a (ceM a q)) (inW a 24)) 0 0 (inW a 24) :=
  m_of (by decide +kernel) hI tb_ok (Nat.le_of_ble_eq_true rfl) (fun p e R s m below meth c X => kb_M_make_0 X hw)
set_option maxHeartbeats 4000000 in
set_option maxRecDepth 100000 in
theorem kb_M_gather_23 {Q : RS → Prop} (X : Cx p l R s m args meth c b_M_gather 3 R_M none D clM (tyM q) a 24 0 0 tbW) {K23 : RS → Int32 → Prop} (hK23 : ∀ (h : RS) (x1 : Int32), K23 h x1 → Z p l e R s m args below meth c D clM 24 a (ceM a q) 3 (MQ below (va_Qv Q (AtC D clM 24 a (ceM a q)) (inW a 24)) args s 0 0 (inW a 24)) h 23 [(0, .ref (a 0)), (1, .int x1)] []) {h : RS} {x1 : Int32} (hw : bp_M_gather_23 K23 Q h x1) : Z p l e R s m args below meth c D clM 24 a (ceM a q) 3 (MQ below (va_Qv Q (AtC D clM 24 a (ceM a q)) (inW a 24)) args s 0 0 (inW a 24)) h 23 [(0, .ref (a 0)), (1, .int x1)] [] := by
  unfold bp_M_gather_23 at hw
  refine z_iload_n (pc := 23) X 1 d_M_gather_23 rfl rfl ?_
  refine z_aload_n (pc := 24) X 0 d_M_gather_24 rfl rfl ?_
  refine z_get (i := 0) (pc := 25) X (by decide) (cM_M _) rfl hin_M 16 (by decide) lk193 rfl rfl d_M_gather_25 ?_
  refine z_icmp_ge (tgt := 85) (pc := 28) X d_M_gather_28 (by decide) (fun hc => ?_) (fun hc => ?_)
  · have hw := hw.1 hc
    exact z_vret (pc := 85) X d_M_gather_85 hw
  · have hw := hw.2 hc
    refine z_aload_n (pc := 31) X 0 d_M_gather_31 rfl rfl ?_
    refine z_get (i := 0) (pc := 32) X (by decide) (cM_M _) rfl hin_M 17 (by decide) lk192 rfl rfl d_M_gather_32 ?_
    refine z_iload_n (pc := 35) X 1 d_M_gather_35 rfl rfl ?_
    obtain ⟨k1, hk1, ek1, hw⟩ := hw
    refine z_iald (i := 14) (pc := 36) X 0 (by decide) (cM__channelOf _) rfl (by decide) hk1 ek1 d_M_gather_36 ?_
    refine z_istore_n (pc := 37) X d_M_gather_37 rfl (by decide) rfl ?_
    refine z_aload_n (pc := 38) X 1 d_M_gather_38 rfl rfl ?_
    refine z_get (i := 0) (pc := 39) X (by decide) (cM_M _) rfl hin_M 19 (by decide) lk195 rfl rfl d_M_gather_39 ?_
    refine z_iload_n (pc := 42) X 2 d_M_gather_42 rfl rfl ?_
    obtain ⟨k2, hk2, ek2, hw⟩ := hw
    refine z_iald (i := 16) (pc := 43) X 0 (by decide) (cM__states _) rfl (by decide) hk2 ek2 d_M_gather_43 ?_
    refine z_iconst (v := (1 : Int32)) (pc := 44) X d_M_gather_44 (by decide) ?_
    refine z_icmp_ne (tgt := 79) (pc := 45) X d_M_gather_45 (by decide) (fun hc => ?_) (fun hc => ?_)
    · have hw := hw.1 hc
      refine z_iinc (v := (x1 + 1)) (pc := 79) X 2 d_M_gather_79 rfl rfl (by decide) rfl ?_
      refine z_goto (tgt := 23) (pc := 82) X d_M_gather_82 (by decide) ?_
      exact z_to [2, 0] rfl (hK23 _ _ hw)
    · have hw := hw.2 hc
      refine z_aload_n (pc := 48) X 1 d_M_gather_48 rfl rfl ?_
      refine z_get (i := 0) (pc := 49) X (by decide) (cM_M _) rfl hin_M 24 (by decide) lk197 rfl rfl d_M_gather_49 ?_
      refine z_bipush (v := (6 : Int32)) (pc := 52) X d_M_gather_52 (by decide) ?_
      refine z_iload_n (pc := 54) X 0 d_M_gather_54 rfl rfl ?_
      refine z_imul (pc := 55) X d_M_gather_55 ?_
      refine z_aload_n (pc := 56) X 1 d_M_gather_56 rfl rfl ?_
      refine z_get (i := 0) (pc := 57) X (by decide) (cM_M _) rfl hin_M 25 (by decide) lk198 rfl rfl d_M_gather_57 ?_
      refine z_iload_n (pc := 60) X 0 d_M_gather_60 rfl rfl ?_
      obtain ⟨k3, hk3, ek3, hw⟩ := hw
      refine z_iald (i := 21) (pc := 61) X 0 (by decide) (cM__count _) rfl (by decide) hk3 ek3 d_M_gather_61 ?_
      refine z_iadd (pc := 62) X d_M_gather_62 ?_
      refine z_iload_n (pc := 63) X 2 d_M_gather_63 rfl rfl ?_
      obtain ⟨k4, hk4, ek4, hw⟩ := hw
      refine z_iast (i := 20) (pc := 64) X 0 (by decide) (fun g => (cM__gathered g)) rfl (by decide) hk4 ek4 d_M_gather_64 ?_
      have hw := hw _ rfl
      refine z_aload_n (pc := 65) X 1 d_M_gather_65 rfl rfl ?_
      refine z_get (i := 0) (pc := 66) X (by decide) (cM_M _) rfl hin_M 25 (by decide) lk198 rfl rfl d_M_gather_66 ?_
      refine z_iload_n (pc := 69) X 0 d_M_gather_69 rfl rfl ?_
      refine z_aload_n (pc := 70) X 1 d_M_gather_70 rfl rfl ?_
      refine z_get (i := 0) (pc := 71) X (by decide) (cM_M _) rfl hin_M 25 (by decide) lk198 rfl rfl d_M_gather_71 ?_
      refine z_iload_n (pc := 74) X 0 d_M_gather_74 rfl rfl ?_
      obtain ⟨k6, hk6, ek6, hw⟩ := hw
      refine z_iald (i := 21) (pc := 75) X 0 (by decide) (cM__count _) rfl (by decide) hk6 ek6 d_M_gather_75 ?_
      refine z_iconst (v := (1 : Int32)) (pc := 76) X d_M_gather_76 (by decide) ?_
      refine z_iadd (pc := 77) X d_M_gather_77 ?_
      obtain ⟨k7, hk7, ek7, hw⟩ := hw
      refine z_iast (i := 21) (pc := 78) X 0 (by decide) (fun g => (cM__count g)) rfl (by decide) hk7 ek7 d_M_gather_78 ?_
      have hw := hw _ rfl
      refine z_iinc (v := (x1 + 1)) (pc := 79) X 2 d_M_gather_79 rfl rfl (by decide) rfl ?_
      refine z_goto (tgt := 23) (pc := 82) X d_M_gather_82 (by decide) ?_
      exact z_to [2, 0] rfl (hK23 _ _ hw)
theorem kl_M_gather_23 {Q : RS → Prop} (X : Cx p l R s m args meth c b_M_gather 3 R_M none D clM (tyM q) a 24 0 0 tbW) : ∀ (n : Nat) (h : RS) (x1 : Int32), wp_M_gather_23 Q n h x1 → Z p l e R s m args below meth c D clM 24 a (ceM a q) 3 (MQ below (va_Qv Q (AtC D clM 24 a (ceM a q)) (inW a 24)) args s 0 0 (inW a 24)) h 23 [(0, .ref (a 0)), (1, .int x1)] [] := by
  intro n
  induction n with
  | zero =>
    intro h x1 hw
    exact hw.elim
  | succ n ih =>
    intro h x1 hw
    exact kb_M_gather_23 X ih hw
set_option maxHeartbeats 4000000 in
set_option maxRecDepth 100000 in
theorem kb_M_gather_2 {Q : RS → Prop} (X : Cx p l R s m args meth c b_M_gather 3 R_M none D clM (tyM q) a 24 0 0 tbW) {K2 : RS → Int32 → Prop} (hK2 : ∀ (h : RS) (x1 : Int32), K2 h x1 → Z p l e R s m args below meth c D clM 24 a (ceM a q) 3 (MQ below (va_Qv Q (AtC D clM 24 a (ceM a q)) (inW a 24)) args s 0 0 (inW a 24)) h 2 [(0, .ref (a 0)), (1, .int x1)] []) {h : RS} {x1 : Int32} (hw : bp_M_gather_2 K2 Q h x1) : Z p l e R s m args below meth c D clM 24 a (ceM a q) 3 (MQ below (va_Qv Q (AtC D clM 24 a (ceM a q)) (inW a 24)) args s 0 0 (inW a 24)) h 2 [(0, .ref (a 0)), (1, .int x1)] [] := by
  unfold bp_M_gather_2 at hw
  refine z_iload_n (pc := 2) X 1 d_M_gather_2 rfl rfl ?_
  refine z_bipush (v := (8 : Int32)) (pc := 3) X d_M_gather_3 (by decide) ?_
  refine z_icmp_ge (tgt := 21) (pc := 5) X d_M_gather_5 (by decide) (fun hc => ?_) (fun hc => ?_)
  · have hw := hw.1 hc
    refine z_iconst (v := (0 : Int32)) (pc := 21) X d_M_gather_21 (by decide) ?_
    refine z_istore_n (pc := 22) X d_M_gather_22 rfl (by decide) rfl ?_
    obtain ⟨n9, hw⟩ := hw
    exact z_to [1, 0] rfl (kl_M_gather_23 X n9 _ _ hw)
  · have hw := hw.2 hc
    refine z_aload_n (pc := 8) X 0 d_M_gather_8 rfl rfl ?_
    refine z_get (i := 0) (pc := 9) X (by decide) (cM_M _) rfl hin_M 25 (by decide) lk198 rfl rfl d_M_gather_9 ?_
    refine z_iload_n (pc := 12) X 1 d_M_gather_12 rfl rfl ?_
    refine z_iconst (v := (0 : Int32)) (pc := 13) X d_M_gather_13 (by decide) ?_
    obtain ⟨k10, hk10, ek10, hw⟩ := hw
    refine z_iast (i := 21) (pc := 14) X 0 (by decide) (fun g => (cM__count g)) rfl (by decide) hk10 ek10 d_M_gather_14 ?_
    have hw := hw _ rfl
    refine z_iinc (v := (x1 + 1)) (pc := 15) X 1 d_M_gather_15 rfl rfl (by decide) rfl ?_
    refine z_goto (tgt := 2) (pc := 18) X d_M_gather_18 (by decide) ?_
    exact z_to [1, 0] rfl (hK2 _ _ hw)
theorem kl_M_gather_2 {Q : RS → Prop} (X : Cx p l R s m args meth c b_M_gather 3 R_M none D clM (tyM q) a 24 0 0 tbW) : ∀ (n : Nat) (h : RS) (x1 : Int32), wp_M_gather_2 Q n h x1 → Z p l e R s m args below meth c D clM 24 a (ceM a q) 3 (MQ below (va_Qv Q (AtC D clM 24 a (ceM a q)) (inW a 24)) args s 0 0 (inW a 24)) h 2 [(0, .ref (a 0)), (1, .int x1)] [] := by
  intro n
  induction n with
  | zero =>
    intro h x1 hw
    exact hw.elim
  | succ n ih =>
    intro h x1 hw
    exact kb_M_gather_2 X ih hw
set_option maxHeartbeats 4000000 in
set_option maxRecDepth 100000 in
theorem kb_M_gather_0 {Q : RS → Prop} (X : Cx p l R s m args meth c b_M_gather 3 R_M none D clM (tyM q) a 24 0 0 tbW) {h : RS} (hw : bp_M_gather_0 Q h) : Z p l e R s m args below meth c D clM 24 a (ceM a q) 3 (MQ below (va_Qv Q (AtC D clM 24 a (ceM a q)) (inW a 24)) args s 0 0 (inW a 24)) h 0 [(0, .ref (a 0))] [] := by
  unfold bp_M_gather_0 at hw
  refine z_iconst (v := (0 : Int32)) (pc := 0) X d_M_gather_0 (by decide) ?_
  refine z_istore_n (pc := 1) X d_M_gather_1 rfl (by decide) rfl ?_
  obtain ⟨n12, hw⟩ := hw
  exact z_to [1, 0] rfl (kl_M_gather_2 X n12 _ _ hw)
theorem c_M_gather {l : Launch} {D : va_G} {a : Nat → Nat} {q : Nat → ClassId} (hI : injW a 24) {h : RS} {Q : RS → Prop} (hw : wp_M_gather h Q) : Met l y_M_gather [.code y_M_gather b_M_gather 3 none] { frames := 0, cells := 0, slots := 0, locals := 0 } (va_Pc [.ref (a 0)] (PreC tbW D clM (tyM q) 24 a (ceM a q) h)) (va_Qv Q (AtC D clM 24 a (ceM a q)) (inW a 24)) 0 0 (inW a 24) :=
  m_of (by decide +kernel) hI tb_ok (Nat.le_of_ble_eq_true rfl) (fun p e R s m below meth c X => kb_M_gather_0 X hw)
set_option maxHeartbeats 4000000 in
set_option maxRecDepth 100000 in
theorem kb_M_enter_0 {Q : Int32 → RS → Prop} (X : Cx p l R s m args meth c b_M_enter 4 R_M (some .int) D clM (tyM q) a 24 1 22 tbW) {h : RS} {x1 : Int32} {x2 : Int32} {x3 : Int32} (hw : bp_M_enter_0 Q h x1 x2 x3) : Z p l e R s m args below meth c D clM 24 a (ceM a q) 4 (MQ below (va_Qi Q (AtC D clM 24 a (ceM a q)) (inW a 24)) args s 0 0 (inW a 24)) h 0 [(0, .ref (a 0)), (1, .int x1), (2, .int x2), (3, .int x3)] [] := by
  unfold bp_M_enter_0 at hw
  refine z_aload_n (pc := 0) X 0 d_M_enter_0 rfl rfl ?_
  refine z_cVv (i := 0) (pc := 1) X [] (c_M_gather X.2.2.2.2.2.2.2.2.1 hw) (by decide) (by decide) lk199 cd_M_gather lk163 lk200 lk201 (by decide) (cM_M _) rfl nm_M_gather rfl rfl (Nat.le_of_ble_eq_true rfl) d_M_enter_1 (fun h1 hw => ?_)
  refine z_aload_n (pc := 4) X 0 d_M_enter_4 rfl rfl ?_
  refine z_get (i := 0) (pc := 5) X (by decide) (cM_M _) rfl hin_M 15 (by decide) lk157 rfl rfl d_M_enter_5 ?_
  refine z_if_eq (tgt := 50) (pc := 8) X d_M_enter_8 (by decide) (fun hc => ?_) (fun hc => ?_)
  · have hw := hw.1 hc
    refine z_iconst (v := (-1 : Int32)) (pc := 50) X d_M_enter_50 (by decide) ?_
    exact z_iret (pc := 51) X d_M_enter_51 hw
  · have hw := hw.2 hc
    refine z_aload_n (pc := 11) X 0 d_M_enter_11 rfl rfl ?_
    refine z_iload_n (pc := 12) X 1 d_M_enter_12 rfl rfl ?_
    refine z_cVi (i := 0) (pc := 13) X [.int _] (c_M_isChannel X.2.2.2.2.2.2.2.2.1 hw) (by decide) (by decide) lk166 cd_M_isChannel lk163 lk167 lk168 (by decide) (cM_M _) rfl nm_M_isChannel rfl rfl (Nat.le_of_ble_eq_true rfl) d_M_enter_13 (fun r2 h3 hw => ?_)
    refine z_if_eq (tgt := 50) (pc := 16) X d_M_enter_16 (by decide) (fun hc => ?_) (fun hc => ?_)
    · have hw := hw.1 hc
      refine z_iconst (v := (-1 : Int32)) (pc := 50) X d_M_enter_50 (by decide) ?_
      exact z_iret (pc := 51) X d_M_enter_51 hw
    · have hw := hw.2 hc
      refine z_aload_n (pc := 19) X 0 d_M_enter_19 rfl rfl ?_
      refine z_get (i := 0) (pc := 20) X (by decide) (cM_M _) rfl hin_M 1 (by decide) lk159 rfl rfl d_M_enter_20 ?_
      refine z_iload_n (pc := 23) X 1 d_M_enter_23 rfl rfl ?_
      obtain ⟨k4, hk4, ek4, hw⟩ := hw
      refine z_zald (i := 1) (pc := 24) X 1 (by decide) (cM__answered _) rfl (by decide) hk4 ek4 d_M_enter_24 ?_
      refine z_iload_n (pc := 25) X 3 d_M_enter_25 rfl rfl ?_
      refine z_icmp_ne (tgt := 50) (pc := 26) X d_M_enter_26 (by decide) (fun hc => ?_) (fun hc => ?_)
      · have hw := hw.1 hc
        refine z_iconst (v := (-1 : Int32)) (pc := 50) X d_M_enter_50 (by decide) ?_
        exact z_iret (pc := 51) X d_M_enter_51 hw
      · have hw := hw.2 hc
        refine z_aload_n (pc := 29) X 0 d_M_enter_29 rfl rfl ?_
        refine z_get (i := 0) (pc := 30) X (by decide) (cM_M _) rfl hin_M 25 (by decide) lk198 rfl rfl d_M_enter_30 ?_
        refine z_iload_n (pc := 33) X 1 d_M_enter_33 rfl rfl ?_
        obtain ⟨k5, hk5, ek5, hw⟩ := hw
        refine z_iald (i := 21) (pc := 34) X 0 (by decide) (cM__count _) rfl (by decide) hk5 ek5 d_M_enter_34 ?_
        refine z_bipush (v := (6 : Int32)) (pc := 35) X d_M_enter_35 (by decide) ?_
        refine z_icmp_ge (tgt := 50) (pc := 37) X d_M_enter_37 (by decide) (fun hc => ?_) (fun hc => ?_)
        · have hw := hw.1 hc
          refine z_iconst (v := (-1 : Int32)) (pc := 50) X d_M_enter_50 (by decide) ?_
          exact z_iret (pc := 51) X d_M_enter_51 hw
        · have hw := hw.2 hc
          refine z_aload_n (pc := 40) X 0 d_M_enter_40 rfl rfl ?_
          refine z_get (i := 0) (pc := 41) X (by decide) (cM_M _) rfl hin_M 16 (by decide) lk193 rfl rfl d_M_enter_41 ?_
          refine z_sipush (v := (300 : Int32)) (pc := 44) X d_M_enter_44 (by decide) ?_
          refine z_icmp_lt (tgt := 52) (pc := 47) X d_M_enter_47 (by decide) (fun hc => ?_) (fun hc => ?_)
          · have hw := hw.1 hc
            refine z_aload_n (pc := 52) X 0 d_M_enter_52 rfl rfl ?_
            refine z_iload_n (pc := 53) X 1 d_M_enter_53 rfl rfl ?_
            refine z_iload_n (pc := 54) X 2 d_M_enter_54 rfl rfl ?_
            refine z_cVi (i := 0) (pc := 55) X [.int _, .int _] (c_M_make X.2.2.2.2.2.2.2.2.1 hw) (by decide) (by decide) lk202 cd_M_make lk163 lk203 lk204 (by decide) (cM_M _) rfl nm_M_make rfl rfl (Nat.le_of_ble_eq_true rfl) d_M_enter_55 (fun r6 h7 hw => ?_)
            exact z_iret (pc := 58) X d_M_enter_58 hw
          · have hw := hw.2 hc
            refine z_iconst (v := (-1 : Int32)) (pc := 50) X d_M_enter_50 (by decide) ?_
            exact z_iret (pc := 51) X d_M_enter_51 hw
theorem c_M_enter {l : Launch} {D : va_G} {a : Nat → Nat} {q : Nat → ClassId} (hI : injW a 24) {h : RS} {x1 : Int32} {x2 : Int32} {x3 : Int32} {Q : Int32 → RS → Prop} (hw : wp_M_enter h x1 x2 x3 Q) : Met l y_M_enter [.code y_M_enter b_M_enter 4 (some .int)] { frames := 1, cells := 0, slots := 0, locals := 22 } (va_Pc [.ref (a 0), .int x1, .int x2, .int x3] (PreC tbW D clM (tyM q) 24 a (ceM a q) h)) (va_Qi Q (AtC D clM 24 a (ceM a q)) (inW a 24)) 0 0 (inW a 24) :=
  m_of (by decide +kernel) hI tb_ok (Nat.le_of_ble_eq_true rfl) (fun p e R s m below meth c X => kb_M_enter_0 X hw)
set_option maxHeartbeats 4000000 in
set_option maxRecDepth 100000 in
theorem kb_M_put_0 {Q : Int32 → RS → Prop} (X : Cx p l R s m args meth c b_M_put 3 R_M (some .int) D clM (tyM q) a 24 2 45 tbW) {h : RS} {x1 : Int32} {x2 : Int32} (hw : bp_M_put_0 Q h x1 x2) : Z p l e R s m args below meth c D clM 24 a (ceM a q) 3 (MQ below (va_Qi Q (AtC D clM 24 a (ceM a q)) (inW a 24)) args s 0 0 (inW a 24)) h 0 [(0, .ref (a 0)), (1, .int x1), (2, .int x2)] [] := by
  unfold bp_M_put_0 at hw
  refine z_aload_n (pc := 0) X 0 d_M_put_0 rfl rfl ?_
  refine z_iload_n (pc := 1) X 1 d_M_put_1 rfl rfl ?_
  refine z_iload_n (pc := 2) X 2 d_M_put_2 rfl rfl ?_
  refine z_iconst (v := (0 : Int32)) (pc := 3) X d_M_put_3 (by decide) ?_
  refine z_cVi (i := 0) (pc := 4) X [.int _, .int _, .int _] (c_M_enter X.2.2.2.2.2.2.2.2.1 hw) (by decide) (by decide) lk205 cd_M_enter lk163 lk206 lk207 (by decide) (cM_M _) rfl nm_M_enter rfl rfl (Nat.le_of_ble_eq_true rfl) d_M_put_4 (fun r1 h2 hw => ?_)
  exact z_iret (pc := 7) X d_M_put_7 hw
theorem c_M_put {l : Launch} {D : va_G} {a : Nat → Nat} {q : Nat → ClassId} (hI : injW a 24) {h : RS} {x1 : Int32} {x2 : Int32} {Q : Int32 → RS → Prop} (hw : wp_M_put h x1 x2 Q) : Met l y_M_put [.code y_M_put b_M_put 3 (some .int)] { frames := 2, cells := 0, slots := 0, locals := 45 } (va_Pc [.ref (a 0), .int x1, .int x2] (PreC tbW D clM (tyM q) 24 a (ceM a q) h)) (va_Qi Q (AtC D clM 24 a (ceM a q)) (inW a 24)) 0 0 (inW a 24) :=
  m_of (by decide +kernel) hI tb_ok (Nat.le_of_ble_eq_true rfl) (fun p e R s m below meth c X => kb_M_put_0 X hw)
set_option maxHeartbeats 4000000 in
set_option maxRecDepth 100000 in
theorem kb_M_call_0 {Q : Int32 → RS → Prop} (X : Cx p l R s m args meth c b_M_call 3 R_M (some .int) D clM (tyM q) a 24 2 45 tbW) {h : RS} {x1 : Int32} {x2 : Int32} (hw : bp_M_call_0 Q h x1 x2) : Z p l e R s m args below meth c D clM 24 a (ceM a q) 3 (MQ below (va_Qi Q (AtC D clM 24 a (ceM a q)) (inW a 24)) args s 0 0 (inW a 24)) h 0 [(0, .ref (a 0)), (1, .int x1), (2, .int x2)] [] := by
  unfold bp_M_call_0 at hw
  refine z_aload_n (pc := 0) X 0 d_M_call_0 rfl rfl ?_
  refine z_iload_n (pc := 1) X 1 d_M_call_1 rfl rfl ?_
  refine z_iload_n (pc := 2) X 2 d_M_call_2 rfl rfl ?_
  refine z_iconst (v := (1 : Int32)) (pc := 3) X d_M_call_3 (by decide) ?_
  refine z_cVi (i := 0) (pc := 4) X [.int _, .int _, .int _] (c_M_enter X.2.2.2.2.2.2.2.2.1 hw) (by decide) (by decide) lk205 cd_M_enter lk163 lk206 lk207 (by decide) (cM_M _) rfl nm_M_enter rfl rfl (Nat.le_of_ble_eq_true rfl) d_M_call_4 (fun r1 h2 hw => ?_)
  exact z_iret (pc := 7) X d_M_call_7 hw
theorem c_M_call {l : Launch} {D : va_G} {a : Nat → Nat} {q : Nat → ClassId} (hI : injW a 24) {h : RS} {x1 : Int32} {x2 : Int32} {Q : Int32 → RS → Prop} (hw : wp_M_call h x1 x2 Q) : Met l y_M_call [.code y_M_call b_M_call 3 (some .int)] { frames := 2, cells := 0, slots := 0, locals := 45 } (va_Pc [.ref (a 0), .int x1, .int x2] (PreC tbW D clM (tyM q) 24 a (ceM a q) h)) (va_Qi Q (AtC D clM 24 a (ceM a q)) (inW a 24)) 0 0 (inW a 24) :=
  m_of (by decide +kernel) hI tb_ok (Nat.le_of_ble_eq_true rfl) (fun p e R s m below meth c X => kb_M_call_0 X hw)
set_option maxHeartbeats 4000000 in
set_option maxRecDepth 100000 in
theorem kb_M_isMessage_0 {Q : Int32 → RS → Prop} (X : Cx p l R s m args meth c b_M_isMessage 2 R_M (some .boolean) D clM (tyM q) a 24 0 0 tbW) {h : RS} {x1 : Int32} (hw : bp_M_isMessage_0 Q h x1) : Z p l e R s m args below meth c D clM 24 a (ceM a q) 2 (MQ below (va_Qi Q (AtC D clM 24 a (ceM a q)) (inW a 24)) args s 0 0 (inW a 24)) h 0 [(0, .ref (a 0)), (1, .int x1)] [] := by
  unfold bp_M_isMessage_0 at hw
  refine z_iload_n (pc := 0) X 1 d_M_isMessage_0 rfl rfl ?_
  refine z_if_lt (tgt := 16) (pc := 1) X d_M_isMessage_1 (by decide) (fun hc => ?_) (fun hc => ?_)
  · have hw := hw.1 hc
    refine z_iconst (v := (0 : Int32)) (pc := 16) X d_M_isMessage_16 (by decide) ?_
    exact z_zret (pc := 17) X hw.1 d_M_isMessage_17 hw.2
  · have hw := hw.2 hc
    refine z_iload_n (pc := 4) X 1 d_M_isMessage_4 rfl rfl ?_
    refine z_aload_n (pc := 5) X 0 d_M_isMessage_5 rfl rfl ?_
    refine z_get (i := 0) (pc := 6) X (by decide) (cM_M _) rfl hin_M 16 (by decide) lk193 rfl rfl d_M_isMessage_6 ?_
    refine z_icmp_ge (tgt := 16) (pc := 9) X d_M_isMessage_9 (by decide) (fun hc => ?_) (fun hc => ?_)
    · have hw := hw.1 hc
      refine z_iconst (v := (0 : Int32)) (pc := 16) X d_M_isMessage_16 (by decide) ?_
      exact z_zret (pc := 17) X hw.1 d_M_isMessage_17 hw.2
    · have hw := hw.2 hc
      refine z_iconst (v := (1 : Int32)) (pc := 12) X d_M_isMessage_12 (by decide) ?_
      refine z_goto (tgt := 17) (pc := 13) X d_M_isMessage_13 (by decide) ?_
      exact z_zret (pc := 17) X hw.1 d_M_isMessage_17 hw.2
theorem c_M_isMessage {l : Launch} {D : va_G} {a : Nat → Nat} {q : Nat → ClassId} (hI : injW a 24) {h : RS} {x1 : Int32} {Q : Int32 → RS → Prop} (hw : wp_M_isMessage h x1 Q) : Met l y_M_isMessage [.code y_M_isMessage b_M_isMessage 2 (some .boolean)] { frames := 0, cells := 0, slots := 0, locals := 0 } (va_Pc [.ref (a 0), .int x1] (PreC tbW D clM (tyM q) 24 a (ceM a q) h)) (va_Qi Q (AtC D clM 24 a (ceM a q)) (inW a 24)) 0 0 (inW a 24) :=
  m_of (by decide +kernel) hI tb_ok (Nat.le_of_ble_eq_true rfl) (fun p e R s m below meth c X => kb_M_isMessage_0 X hw)
set_option maxHeartbeats 4000000 in
set_option maxRecDepth 100000 in
theorem kb_M_withdraw_0 {Q : Int32 → RS → Prop} (X : Cx p l R s m args meth c b_M_withdraw 2 R_M (some .boolean) D clM (tyM q) a 24 1 21 tbW) {h : RS} {x1 : Int32} (hw : bp_M_withdraw_0 Q h x1) : Z p l e R s m args below meth c D clM 24 a (ceM a q) 2 (MQ below (va_Qi Q (AtC D clM 24 a (ceM a q)) (inW a 24)) args s 0 0 (inW a 24)) h 0 [(0, .ref (a 0)), (1, .int x1)] [] := by
  unfold bp_M_withdraw_0 at hw
  refine z_aload_n (pc := 0) X 0 d_M_withdraw_0 rfl rfl ?_
  refine z_iload_n (pc := 1) X 1 d_M_withdraw_1 rfl rfl ?_
  refine z_cVi (i := 0) (pc := 2) X [.int _] (c_M_isMessage X.2.2.2.2.2.2.2.2.1 hw) (by decide) (by decide) lk208 cd_M_isMessage lk163 lk209 lk210 (by decide) (cM_M _) rfl nm_M_isMessage rfl rfl (Nat.le_of_ble_eq_true rfl) d_M_withdraw_2 (fun r1 h2 hw => ?_)
  refine z_if_eq (tgt := 32) (pc := 5) X d_M_withdraw_5 (by decide) (fun hc => ?_) (fun hc => ?_)
  · have hw := hw.1 hc
    refine z_iconst (v := (0 : Int32)) (pc := 32) X d_M_withdraw_32 (by decide) ?_
    exact z_zret (pc := 33) X hw.1 d_M_withdraw_33 hw.2
  · have hw := hw.2 hc
    refine z_aload_n (pc := 8) X 0 d_M_withdraw_8 rfl rfl ?_
    refine z_get (i := 0) (pc := 9) X (by decide) (cM_M _) rfl hin_M 1 (by decide) lk159 rfl rfl d_M_withdraw_9 ?_
    refine z_aload_n (pc := 12) X 0 d_M_withdraw_12 rfl rfl ?_
    refine z_get (i := 0) (pc := 13) X (by decide) (cM_M _) rfl hin_M 17 (by decide) lk192 rfl rfl d_M_withdraw_13 ?_
    refine z_iload_n (pc := 16) X 1 d_M_withdraw_16 rfl rfl ?_
    obtain ⟨k3, hk3, ek3, hw⟩ := hw
    refine z_iald (i := 14) (pc := 17) X 0 (by decide) (cM__channelOf _) rfl (by decide) hk3 ek3 d_M_withdraw_17 ?_
    obtain ⟨k4, hk4, ek4, hw⟩ := hw
    refine z_zald (i := 1) (pc := 18) X 1 (by decide) (cM__answered _) rfl (by decide) hk4 ek4 d_M_withdraw_18 ?_
    refine z_if_eq (tgt := 32) (pc := 19) X d_M_withdraw_19 (by decide) (fun hc => ?_) (fun hc => ?_)
    · have hw := hw.1 hc
      refine z_iconst (v := (0 : Int32)) (pc := 32) X d_M_withdraw_32 (by decide) ?_
      exact z_zret (pc := 33) X hw.1 d_M_withdraw_33 hw.2
    · have hw := hw.2 hc
      refine z_aload_n (pc := 22) X 0 d_M_withdraw_22 rfl rfl ?_
      refine z_get (i := 0) (pc := 23) X (by decide) (cM_M _) rfl hin_M 19 (by decide) lk195 rfl rfl d_M_withdraw_23 ?_
      refine z_iload_n (pc := 26) X 1 d_M_withdraw_26 rfl rfl ?_
      obtain ⟨k5, hk5, ek5, hw⟩ := hw
      refine z_iald (i := 16) (pc := 27) X 0 (by decide) (cM__states _) rfl (by decide) hk5 ek5 d_M_withdraw_27 ?_
      refine z_iconst (v := (1 : Int32)) (pc := 28) X d_M_withdraw_28 (by decide) ?_
      refine z_icmp_eq (tgt := 34) (pc := 29) X d_M_withdraw_29 (by decide) (fun hc => ?_) (fun hc => ?_)
      · have hw := hw.1 hc
        refine z_aload_n (pc := 34) X 0 d_M_withdraw_34 rfl rfl ?_
        refine z_get (i := 0) (pc := 35) X (by decide) (cM_M _) rfl hin_M 19 (by decide) lk195 rfl rfl d_M_withdraw_35 ?_
        refine z_iload_n (pc := 38) X 1 d_M_withdraw_38 rfl rfl ?_
        refine z_iconst (v := (3 : Int32)) (pc := 39) X d_M_withdraw_39 (by decide) ?_
        obtain ⟨k6, hk6, ek6, hw⟩ := hw
        refine z_iast (i := 16) (pc := 40) X 0 (by decide) (fun g => (cM__states g)) rfl (by decide) hk6 ek6 d_M_withdraw_40 ?_
        have hw := hw _ rfl
        refine z_iconst (v := (1 : Int32)) (pc := 41) X d_M_withdraw_41 (by decide) ?_
        exact z_zret (pc := 42) X hw.1 d_M_withdraw_42 hw.2
      · have hw := hw.2 hc
        refine z_iconst (v := (0 : Int32)) (pc := 32) X d_M_withdraw_32 (by decide) ?_
        exact z_zret (pc := 33) X hw.1 d_M_withdraw_33 hw.2
theorem c_M_withdraw {l : Launch} {D : va_G} {a : Nat → Nat} {q : Nat → ClassId} (hI : injW a 24) {h : RS} {x1 : Int32} {Q : Int32 → RS → Prop} (hw : wp_M_withdraw h x1 Q) : Met l y_M_withdraw [.code y_M_withdraw b_M_withdraw 2 (some .boolean)] { frames := 1, cells := 0, slots := 0, locals := 21 } (va_Pc [.ref (a 0), .int x1] (PreC tbW D clM (tyM q) 24 a (ceM a q) h)) (va_Qi Q (AtC D clM 24 a (ceM a q)) (inW a 24)) 0 0 (inW a 24) :=
  m_of (by decide +kernel) hI tb_ok (Nat.le_of_ble_eq_true rfl) (fun p e R s m below meth c X => kb_M_withdraw_0 X hw)
set_option maxHeartbeats 4000000 in
set_option maxRecDepth 100000 in
theorem kb_M_passes_53 {Q : Int32 → RS → Prop} (X : Cx p l R s m args meth c b_M_passes 5 R_M (some .boolean) D clM (tyM q) a 24 0 0 tbW) {h : RS} {x2 : Int32} {x3 : Int32} {x4 : Int32} (hw : bp_M_passes_53 Q h x2 x3 x4) : Z p l e R s m args below meth c D clM 24 a (ceM a q) 5 (MQ below (va_Qi Q (AtC D clM 24 a (ceM a q)) (inW a 24)) args s 0 0 (inW a 24)) h 53 [(2, .int x2), (3, .int x3), (4, .int x4)] [] := by
  unfold bp_M_passes_53 at hw
  refine z_iload (pc := 53) X 2 d_M_passes_53 rfl ?_
  refine z_iconst (v := (4 : Int32)) (pc := 55) X d_M_passes_55 (by decide) ?_
  refine z_icmp_ne (tgt := 69) (pc := 56) X d_M_passes_56 (by decide) (fun hc => ?_) (fun hc => ?_)
  · have hw := hw.1 hc
    refine z_iconst (v := (0 : Int32)) (pc := 69) X d_M_passes_69 (by decide) ?_
    exact z_zret (pc := 70) X hw.1 d_M_passes_70 hw.2
  · have hw := hw.2 hc
    refine z_iload_n (pc := 59) X 0 d_M_passes_59 rfl rfl ?_
    refine z_iload_n (pc := 60) X 1 d_M_passes_60 rfl rfl ?_
    refine z_iand (pc := 61) X d_M_passes_61 ?_
    refine z_if_eq (tgt := 69) (pc := 62) X d_M_passes_62 (by decide) (fun hc => ?_) (fun hc => ?_)
    · have hw := hw.1 hc
      refine z_iconst (v := (0 : Int32)) (pc := 69) X d_M_passes_69 (by decide) ?_
      exact z_zret (pc := 70) X hw.1 d_M_passes_70 hw.2
    · have hw := hw.2 hc
      refine z_iconst (v := (1 : Int32)) (pc := 65) X d_M_passes_65 (by decide) ?_
      refine z_goto (tgt := 70) (pc := 66) X d_M_passes_66 (by decide) ?_
      exact z_zret (pc := 70) X hw.1 d_M_passes_70 hw.2
set_option maxHeartbeats 4000000 in
set_option maxRecDepth 100000 in
theorem kb_M_passes_42 {Q : Int32 → RS → Prop} (X : Cx p l R s m args meth c b_M_passes 5 R_M (some .boolean) D clM (tyM q) a 24 0 0 tbW) {h : RS} {x2 : Int32} {x3 : Int32} {x4 : Int32} (hw : bp_M_passes_42 Q h x2 x3 x4) : Z p l e R s m args below meth c D clM 24 a (ceM a q) 5 (MQ below (va_Qi Q (AtC D clM 24 a (ceM a q)) (inW a 24)) args s 0 0 (inW a 24)) h 42 [(2, .int x2), (3, .int x3), (4, .int x4)] [] := by
  unfold bp_M_passes_42 at hw
  refine z_iload (pc := 42) X 2 d_M_passes_42 rfl ?_
  refine z_iconst (v := (3 : Int32)) (pc := 44) X d_M_passes_44 (by decide) ?_
  refine z_icmp_ne (tgt := 53) (pc := 45) X d_M_passes_45 (by decide) (fun hc => ?_) (fun hc => ?_)
  · have hw := hw.1 hc
    exact z_to [0, 1, 2] rfl (kb_M_passes_53 X hw)
  · have hw := hw.2 hc
    refine z_iload_n (pc := 48) X 0 d_M_passes_48 rfl rfl ?_
    refine z_iload_n (pc := 49) X 1 d_M_passes_49 rfl rfl ?_
    refine z_icmp_ge (tgt := 65) (pc := 50) X d_M_passes_50 (by decide) (fun hc => ?_) (fun hc => ?_)
    · have hw := hw.1 hc
      refine z_iconst (v := (1 : Int32)) (pc := 65) X d_M_passes_65 (by decide) ?_
      refine z_goto (tgt := 70) (pc := 66) X d_M_passes_66 (by decide) ?_
      exact z_zret (pc := 70) X hw.1 d_M_passes_70 hw.2
    · have hw := hw.2 hc
      exact z_to [0, 1, 2] rfl (kb_M_passes_53 X hw)
set_option maxHeartbeats 4000000 in
set_option maxRecDepth 100000 in
theorem kb_M_passes_31 {Q : Int32 → RS → Prop} (X : Cx p l R s m args meth c b_M_passes 5 R_M (some .boolean) D clM (tyM q) a 24 0 0 tbW) {h : RS} {x2 : Int32} {x3 : Int32} {x4 : Int32} (hw : bp_M_passes_31 Q h x2 x3 x4) : Z p l e R s m args below meth c D clM 24 a (ceM a q) 5 (MQ below (va_Qi Q (AtC D clM 24 a (ceM a q)) (inW a 24)) args s 0 0 (inW a 24)) h 31 [(2, .int x2), (3, .int x3), (4, .int x4)] [] := by
  unfold bp_M_passes_31 at hw
  refine z_iload (pc := 31) X 2 d_M_passes_31 rfl ?_
  refine z_iconst (v := (2 : Int32)) (pc := 33) X d_M_passes_33 (by decide) ?_
  refine z_icmp_ne (tgt := 42) (pc := 34) X d_M_passes_34 (by decide) (fun hc => ?_) (fun hc => ?_)
  · have hw := hw.1 hc
    exact z_to [0, 1, 2] rfl (kb_M_passes_42 X hw)
  · have hw := hw.2 hc
    refine z_iload_n (pc := 37) X 0 d_M_passes_37 rfl rfl ?_
    refine z_iload_n (pc := 38) X 1 d_M_passes_38 rfl rfl ?_
    refine z_icmp_lt (tgt := 65) (pc := 39) X d_M_passes_39 (by decide) (fun hc => ?_) (fun hc => ?_)
    · have hw := hw.1 hc
      refine z_iconst (v := (1 : Int32)) (pc := 65) X d_M_passes_65 (by decide) ?_
      refine z_goto (tgt := 70) (pc := 66) X d_M_passes_66 (by decide) ?_
      exact z_zret (pc := 70) X hw.1 d_M_passes_70 hw.2
    · have hw := hw.2 hc
      exact z_to [0, 1, 2] rfl (kb_M_passes_42 X hw)
set_option maxHeartbeats 4000000 in
set_option maxRecDepth 100000 in
theorem kb_M_passes_0 {Q : Int32 → RS → Prop} (X : Cx p l R s m args meth c b_M_passes 5 R_M (some .boolean) D clM (tyM q) a 24 0 0 tbW) {h : RS} {x1 : Int32} {x2 : Int32} (hw : bp_M_passes_0 Q h x1 x2) : Z p l e R s m args below meth c D clM 24 a (ceM a q) 5 (MQ below (va_Qi Q (AtC D clM 24 a (ceM a q)) (inW a 24)) args s 0 0 (inW a 24)) h 0 [(0, .ref (a 0)), (1, .int x1), (2, .int x2)] [] := by
  unfold bp_M_passes_0 at hw
  refine z_aload_n (pc := 0) X 0 d_M_passes_0 rfl rfl ?_
  refine z_get (i := 0) (pc := 1) X (by decide) (cM_M _) rfl hin_M 6 (by decide) lk171 rfl rfl d_M_passes_1 ?_
  refine z_iload_n (pc := 4) X 1 d_M_passes_4 rfl rfl ?_
  obtain ⟨k1, hk1, ek1, hw⟩ := hw
  refine z_iald (i := 5) (pc := 5) X 0 (by decide) (cM__partNumber _) rfl (by decide) hk1 ek1 d_M_passes_5 ?_
  refine z_istore_n (pc := 6) X d_M_passes_6 rfl (by decide) rfl ?_
  refine z_aload_n (pc := 7) X 1 d_M_passes_7 rfl rfl ?_
  refine z_get (i := 0) (pc := 8) X (by decide) (cM_M _) rfl hin_M 5 (by decide) lk170 rfl rfl d_M_passes_8 ?_
  refine z_iload_n (pc := 11) X 2 d_M_passes_11 rfl rfl ?_
  obtain ⟨k2, hk2, ek2, hw⟩ := hw
  refine z_iald (i := 4) (pc := 12) X 0 (by decide) (cM__partTest _) rfl (by decide) hk2 ek2 d_M_passes_12 ?_
  refine z_istore (pc := 13) X d_M_passes_13 (by decide) rfl ?_
  refine z_iload (pc := 15) X 0 d_M_passes_15 rfl ?_
  refine z_if_eq (tgt := 65) (pc := 17) X d_M_passes_17 (by decide) (fun hc => ?_) (fun hc => ?_)
  · have hw := hw.1 hc
    refine z_iconst (v := (1 : Int32)) (pc := 65) X d_M_passes_65 (by decide) ?_
    refine z_goto (tgt := 70) (pc := 66) X d_M_passes_66 (by decide) ?_
    exact z_zret (pc := 70) X hw.1 d_M_passes_70 hw.2
  · have hw := hw.2 hc
    refine z_iload (pc := 20) X 0 d_M_passes_20 rfl ?_
    refine z_iconst (v := (1 : Int32)) (pc := 22) X d_M_passes_22 (by decide) ?_
    refine z_icmp_ne (tgt := 31) (pc := 23) X d_M_passes_23 (by decide) (fun hc => ?_) (fun hc => ?_)
    · have hw := hw.1 hc
      exact z_to [4, 1, 0] rfl (kb_M_passes_31 X hw)
    · have hw := hw.2 hc
      refine z_iload_n (pc := 26) X 4 d_M_passes_26 rfl rfl ?_
      refine z_iload_n (pc := 27) X 1 d_M_passes_27 rfl rfl ?_
      refine z_icmp_eq (tgt := 65) (pc := 28) X d_M_passes_28 (by decide) (fun hc => ?_) (fun hc => ?_)
      · have hw := hw.1 hc
        refine z_iconst (v := (1 : Int32)) (pc := 65) X d_M_passes_65 (by decide) ?_
        refine z_goto (tgt := 70) (pc := 66) X d_M_passes_66 (by decide) ?_
        exact z_zret (pc := 70) X hw.1 d_M_passes_70 hw.2
      · have hw := hw.2 hc
        exact z_to [4, 1, 0] rfl (kb_M_passes_31 X hw)
theorem c_M_passes {l : Launch} {D : va_G} {a : Nat → Nat} {q : Nat → ClassId} (hI : injW a 24) {h : RS} {x1 : Int32} {x2 : Int32} {Q : Int32 → RS → Prop} (hw : wp_M_passes h x1 x2 Q) : Met l y_M_passes [.code y_M_passes b_M_passes 5 (some .boolean)] { frames := 0, cells := 0, slots := 0, locals := 0 } (va_Pc [.ref (a 0), .int x1, .int x2] (PreC tbW D clM (tyM q) 24 a (ceM a q) h)) (va_Qi Q (AtC D clM 24 a (ceM a q)) (inW a 24)) 0 0 (inW a 24) :=
  m_of (by decide +kernel) hI tb_ok (Nat.le_of_ble_eq_true rfl) (fun p e R s m below meth c X => kb_M_passes_0 X hw)
set_option maxHeartbeats 4000000 in
set_option maxRecDepth 100000 in
theorem kb_M_guarded_218 {Q : Int32 → RS → Prop} (X : Cx p l R s m args meth c b_M_guarded 11 R_M (some .boolean) D clM (tyM q) a 24 0 0 tbW) {h : RS} {x2 : Int32} {x3 : Int32} {x4 : Int64} (hw : bp_M_guarded_218 Q h x2 x3 x4) : Z p l e R s m args below meth c D clM 24 a (ceM a q) 11 (MQ below (va_Qi Q (AtC D clM 24 a (ceM a q)) (inW a 24)) args s 0 0 (inW a 24)) h 218 [(2, .int x2), (3, .int x3), (4, .long x4)] [] := by
  unfold bp_M_guarded_218 at hw
  refine z_iload_n (pc := 218) X 0 d_M_guarded_218 rfl rfl ?_
  refine z_iconst (v := (5 : Int32)) (pc := 219) X d_M_guarded_219 (by decide) ?_
  refine z_icmp_ne (tgt := 241) (pc := 220) X d_M_guarded_220 (by decide) (fun hc => ?_) (fun hc => ?_)
  · have hw := hw.1 hc
    refine z_iconst (v := (0 : Int32)) (pc := 241) X d_M_guarded_241 (by decide) ?_
    exact z_zret (pc := 242) X hw.1 d_M_guarded_242 hw.2
  · have hw := hw.2 hc
    refine z_iload_n (pc := 223) X 1 d_M_guarded_223 rfl rfl ?_
    refine z_if_eq (tgt := 241) (pc := 224) X d_M_guarded_224 (by decide) (fun hc => ?_) (fun hc => ?_)
    · have hw := hw.1 hc
      refine z_iconst (v := (0 : Int32)) (pc := 241) X d_M_guarded_241 (by decide) ?_
      exact z_zret (pc := 242) X hw.1 d_M_guarded_242 hw.2
    · have hw := hw.2 hc
      refine z_lload (pc := 227) X 2 d_M_guarded_227 rfl ?_
      refine z_iload_n (pc := 229) X 1 d_M_guarded_229 rfl rfl ?_
      refine z_i2l (pc := 230) X d_M_guarded_230 ?_
      obtain ⟨hne, hw⟩ := hw
      refine z_lrem (pc := 231) X d_M_guarded_231 hne ?_
      refine z_lconst (v := (0 : Int64)) (pc := 232) X d_M_guarded_232 (by decide) ?_
      refine z_lcmp (pc := 233) X d_M_guarded_233 ?_
      refine z_if_ne (tgt := 241) (pc := 234) X d_M_guarded_234 (by decide) (fun hc => ?_) (fun hc => ?_)
      · have hw := hw.1 hc
        refine z_iconst (v := (0 : Int32)) (pc := 241) X d_M_guarded_241 (by decide) ?_
        exact z_zret (pc := 242) X hw.1 d_M_guarded_242 hw.2
      · have hw := hw.2 hc
        refine z_iconst (v := (1 : Int32)) (pc := 237) X d_M_guarded_237 (by decide) ?_
        refine z_goto (tgt := 242) (pc := 238) X d_M_guarded_238 (by decide) ?_
        exact z_zret (pc := 242) X hw.1 d_M_guarded_242 hw.2
set_option maxHeartbeats 4000000 in
set_option maxRecDepth 100000 in
theorem kb_M_guarded_205 {Q : Int32 → RS → Prop} (X : Cx p l R s m args meth c b_M_guarded 11 R_M (some .boolean) D clM (tyM q) a 24 0 0 tbW) {h : RS} {x2 : Int32} {x3 : Int32} {x4 : Int64} (hw : bp_M_guarded_205 Q h x2 x3 x4) : Z p l e R s m args below meth c D clM 24 a (ceM a q) 11 (MQ below (va_Qi Q (AtC D clM 24 a (ceM a q)) (inW a 24)) args s 0 0 (inW a 24)) h 205 [(2, .int x2), (3, .int x3), (4, .long x4)] [] := by
  unfold bp_M_guarded_205 at hw
  refine z_iload_n (pc := 205) X 0 d_M_guarded_205 rfl rfl ?_
  refine z_iconst (v := (4 : Int32)) (pc := 206) X d_M_guarded_206 (by decide) ?_
  refine z_icmp_ne (tgt := 218) (pc := 207) X d_M_guarded_207 (by decide) (fun hc => ?_) (fun hc => ?_)
  · have hw := hw.1 hc
    exact z_to [0, 1, 2] rfl (kb_M_guarded_218 X hw)
  · have hw := hw.2 hc
    refine z_lload (pc := 210) X 2 d_M_guarded_210 rfl ?_
    refine z_iload_n (pc := 212) X 1 d_M_guarded_212 rfl rfl ?_
    refine z_i2l (pc := 213) X d_M_guarded_213 ?_
    refine z_lcmp (pc := 214) X d_M_guarded_214 ?_
    refine z_if_le (tgt := 237) (pc := 215) X d_M_guarded_215 (by decide) (fun hc => ?_) (fun hc => ?_)
    · have hw := hw.1 hc
      refine z_iconst (v := (1 : Int32)) (pc := 237) X d_M_guarded_237 (by decide) ?_
      refine z_goto (tgt := 242) (pc := 238) X d_M_guarded_238 (by decide) ?_
      exact z_zret (pc := 242) X hw.1 d_M_guarded_242 hw.2
    · have hw := hw.2 hc
      exact z_to [0, 1, 2] rfl (kb_M_guarded_218 X hw)
set_option maxHeartbeats 4000000 in
set_option maxRecDepth 100000 in
theorem kb_M_guarded_195 {Q : Int32 → RS → Prop} (X : Cx p l R s m args meth c b_M_guarded 11 R_M (some .boolean) D clM (tyM q) a 24 0 0 tbW) {h : RS} {x2 : Int32} {x3 : Int32} {x4 : Int64} {x8 : Int32} (hw : bp_M_guarded_195 Q h x2 x3 x4 x8) : Z p l e R s m args below meth c D clM 24 a (ceM a q) 11 (MQ below (va_Qi Q (AtC D clM 24 a (ceM a q)) (inW a 24)) args s 0 0 (inW a 24)) h 195 [(2, .int x2), (3, .int x3), (4, .long x4), (8, .int x8)] [] := by
  unfold bp_M_guarded_195 at hw
  refine z_iload_n (pc := 195) X 0 d_M_guarded_195 rfl rfl ?_
  refine z_iconst (v := (3 : Int32)) (pc := 196) X d_M_guarded_196 (by decide) ?_
  refine z_icmp_ne (tgt := 205) (pc := 197) X d_M_guarded_197 (by decide) (fun hc => ?_) (fun hc => ?_)
  · have hw := hw.1 hc
    exact z_to [0, 1, 2] rfl (kb_M_guarded_205 X hw)
  · have hw := hw.2 hc
    refine z_iload (pc := 200) X 3 d_M_guarded_200 rfl ?_
    refine z_if_ne (tgt := 237) (pc := 202) X d_M_guarded_202 (by decide) (fun hc => ?_) (fun hc => ?_)
    · have hw := hw.1 hc
      refine z_iconst (v := (1 : Int32)) (pc := 237) X d_M_guarded_237 (by decide) ?_
      refine z_goto (tgt := 242) (pc := 238) X d_M_guarded_238 (by decide) ?_
      exact z_zret (pc := 242) X hw.1 d_M_guarded_242 hw.2
    · have hw := hw.2 hc
      exact z_to [0, 1, 2] rfl (kb_M_guarded_205 X hw)
set_option maxHeartbeats 4000000 in
set_option maxRecDepth 100000 in
theorem kb_M_guarded_185 {Q : Int32 → RS → Prop} (X : Cx p l R s m args meth c b_M_guarded 11 R_M (some .boolean) D clM (tyM q) a 24 0 0 tbW) {h : RS} {x2 : Int32} {x3 : Int32} {x4 : Int64} {x7 : Int32} {x8 : Int32} (hw : bp_M_guarded_185 Q h x2 x3 x4 x7 x8) : Z p l e R s m args below meth c D clM 24 a (ceM a q) 11 (MQ below (va_Qi Q (AtC D clM 24 a (ceM a q)) (inW a 24)) args s 0 0 (inW a 24)) h 185 [(2, .int x2), (3, .int x3), (4, .long x4), (7, .int x7), (8, .int x8)] [] := by
  unfold bp_M_guarded_185 at hw
  refine z_iload_n (pc := 185) X 0 d_M_guarded_185 rfl rfl ?_
  refine z_iconst (v := (2 : Int32)) (pc := 186) X d_M_guarded_186 (by decide) ?_
  refine z_icmp_ne (tgt := 195) (pc := 187) X d_M_guarded_187 (by decide) (fun hc => ?_) (fun hc => ?_)
  · have hw := hw.1 hc
    exact z_to [0, 1, 2, 4] rfl (kb_M_guarded_195 X hw)
  · have hw := hw.2 hc
    refine z_iload (pc := 190) X 3 d_M_guarded_190 rfl ?_
    refine z_if_ne (tgt := 237) (pc := 192) X d_M_guarded_192 (by decide) (fun hc => ?_) (fun hc => ?_)
    · have hw := hw.1 hc
      refine z_iconst (v := (1 : Int32)) (pc := 237) X d_M_guarded_237 (by decide) ?_
      refine z_goto (tgt := 242) (pc := 238) X d_M_guarded_238 (by decide) ?_
      exact z_zret (pc := 242) X hw.1 d_M_guarded_242 hw.2
    · have hw := hw.2 hc
      exact z_to [0, 1, 2, 4] rfl (kb_M_guarded_195 X hw)
set_option maxHeartbeats 4000000 in
set_option maxRecDepth 100000 in
theorem kb_M_guarded_156 {Q : Int32 → RS → Prop} (X : Cx p l R s m args meth c b_M_guarded 11 R_M (some .boolean) D clM (tyM q) a 24 0 0 tbW) {K29 : RS → Int32 → Int32 → Int32 → Int64 → Int32 → Int32 → Int32 → Int32 → Prop} (hK29 : ∀ (h : RS) (x1 : Int32) (x2 : Int32) (x3 : Int32) (x4 : Int64) (x6 : Int32) (x7 : Int32) (x8 : Int32) (x9 : Int32), K29 h x1 x2 x3 x4 x6 x7 x8 x9 → Z p l e R s m args below meth c D clM 24 a (ceM a q) 11 (MQ below (va_Qi Q (AtC D clM 24 a (ceM a q)) (inW a 24)) args s 0 0 (inW a 24)) h 29 [(0, .ref (a 0)), (1, .int x1), (2, .int x2), (3, .int x3), (4, .long x4), (6, .int x6), (7, .int x7), (8, .int x8), (9, .int x9)] []) {K56 : RS → Int32 → Int32 → Int32 → Int64 → Int32 → Int32 → Int32 → Int32 → Int32 → Prop} (hK56 : ∀ (h : RS) (x1 : Int32) (x2 : Int32) (x3 : Int32) (x4 : Int64) (x6 : Int32) (x7 : Int32) (x8 : Int32) (x9 : Int32) (x10 : Int32), K56 h x1 x2 x3 x4 x6 x7 x8 x9 x10 → Z p l e R s m args below meth c D clM 24 a (ceM a q) 11 (MQ below (va_Qi Q (AtC D clM 24 a (ceM a q)) (inW a 24)) args s 0 0 (inW a 24)) h 56 [(0, .ref (a 0)), (1, .int x1), (2, .int x2), (3, .int x3), (4, .long x4), (6, .int x6), (7, .int x7), (8, .int x8), (9, .int x9), (10, .int x10)] []) {h : RS} {x1 : Int32} {x2 : Int32} {x3 : Int32} {x4 : Int64} {x6 : Int32} {x7 : Int32} {x9 : Int32} {x10 : Int32} (hw : bp_M_guarded_156 K29 K56 Q h x1 x2 x3 x4 x6 x7 x9 x10) : Z p l e R s m args below meth c D clM 24 a (ceM a q) 11 (MQ below (va_Qi Q (AtC D clM 24 a (ceM a q)) (inW a 24)) args s 0 0 (inW a 24)) h 156 [(0, .ref (a 0)), (1, .int x1), (2, .int x2), (3, .int x3), (4, .long x4), (6, .int x6), (7, .int x7), (9, .int x9), (10, .int x10)] [] := by
  unfold bp_M_guarded_156 at hw
  refine z_iconst (v := (0 : Int32)) (pc := 156) X d_M_guarded_156 (by decide) ?_
  refine z_istore (pc := 157) X d_M_guarded_157 (by decide) rfl ?_
  refine z_iinc (v := (x10 + 1)) (pc := 159) X 9 d_M_guarded_159 rfl rfl (by decide) rfl ?_
  refine z_goto (tgt := 56) (pc := 162) X d_M_guarded_162 (by decide) ?_
  exact z_to [2, 3, 4, 5, 6, 7, 8, 1, 9, 0] rfl (hK56 _ _ _ _ _ _ _ _ _ _ hw)
set_option maxHeartbeats 4000000 in
set_option maxRecDepth 100000 in
theorem kb_M_guarded_128 {Q : Int32 → RS → Prop} (X : Cx p l R s m args meth c b_M_guarded 11 R_M (some .boolean) D clM (tyM q) a 24 0 0 tbW) {K29 : RS → Int32 → Int32 → Int32 → Int64 → Int32 → Int32 → Int32 → Int32 → Prop} (hK29 : ∀ (h : RS) (x1 : Int32) (x2 : Int32) (x3 : Int32) (x4 : Int64) (x6 : Int32) (x7 : Int32) (x8 : Int32) (x9 : Int32), K29 h x1 x2 x3 x4 x6 x7 x8 x9 → Z p l e R s m args below meth c D clM 24 a (ceM a q) 11 (MQ below (va_Qi Q (AtC D clM 24 a (ceM a q)) (inW a 24)) args s 0 0 (inW a 24)) h 29 [(0, .ref (a 0)), (1, .int x1), (2, .int x2), (3, .int x3), (4, .long x4), (6, .int x6), (7, .int x7), (8, .int x8), (9, .int x9)] []) {K56 : RS → Int32 → Int32 → Int32 → Int64 → Int32 → Int32 → Int32 → Int32 → Int32 → Prop} (hK56 : ∀ (h : RS) (x1 : Int32) (x2 : Int32) (x3 : Int32) (x4 : Int64) (x6 : Int32) (x7 : Int32) (x8 : Int32) (x9 : Int32) (x10 : Int32), K56 h x1 x2 x3 x4 x6 x7 x8 x9 x10 → Z p l e R s m args below meth c D clM 24 a (ceM a q) 11 (MQ below (va_Qi Q (AtC D clM 24 a (ceM a q)) (inW a 24)) args s 0 0 (inW a 24)) h 56 [(0, .ref (a 0)), (1, .int x1), (2, .int x2), (3, .int x3), (4, .long x4), (6, .int x6), (7, .int x7), (8, .int x8), (9, .int x9), (10, .int x10)] []) {h : RS} {x1 : Int32} {x2 : Int32} {x3 : Int32} {x4 : Int64} {x6 : Int32} {x8 : Int32} {x9 : Int32} {x10 : Int32} {y0 : Int32} (hw : bp_M_guarded_128 K29 K56 Q h x1 x2 x3 x4 x6 x8 x9 x10 y0) : Z p l e R s m args below meth c D clM 24 a (ceM a q) 11 (MQ below (va_Qi Q (AtC D clM 24 a (ceM a q)) (inW a 24)) args s 0 0 (inW a 24)) h 128 [(0, .ref (a 0)), (1, .int x1), (2, .int x2), (3, .int x3), (4, .long x4), (6, .int x6), (8, .int x8), (9, .int x9), (10, .int x10)] [.int y0] := by
  unfold bp_M_guarded_128 at hw
  refine z_istore (pc := 128) X d_M_guarded_128 (by decide) rfl ?_
  refine z_iload (pc := 130) X 7 d_M_guarded_130 rfl ?_
  refine z_if_eq (tgt := 156) (pc := 132) X d_M_guarded_132 (by decide) (fun hc => ?_) (fun hc => ?_)
  · have hw := hw.1 hc
    exact z_to [1, 2, 3, 4, 5, 6, 0, 8, 9] rfl (kb_M_guarded_156 X hK29 hK56 hw)
  · have hw := hw.2 hc
    refine z_aload_n (pc := 135) X 1 d_M_guarded_135 rfl rfl ?_
    refine z_get (i := 0) (pc := 136) X (by decide) (cM_M _) rfl hin_M 27 (by decide) lk211 rfl rfl d_M_guarded_136 ?_
    refine z_iload (pc := 139) X 9 d_M_guarded_139 rfl ?_
    obtain ⟨k1, hk1, ek1, hw⟩ := hw
    refine z_iald (i := 23) (pc := 141) X 0 (by decide) (cM__tried _) rfl (by decide) hk1 ek1 d_M_guarded_141 ?_
    refine z_aload_n (pc := 142) X 1 d_M_guarded_142 rfl rfl ?_
    refine z_get (i := 0) (pc := 143) X (by decide) (cM_M _) rfl hin_M 27 (by decide) lk211 rfl rfl d_M_guarded_143 ?_
    refine z_iload (pc := 146) X 8 d_M_guarded_146 rfl ?_
    obtain ⟨k2, hk2, ek2, hw⟩ := hw
    refine z_iald (i := 23) (pc := 148) X 0 (by decide) (cM__tried _) rfl (by decide) hk2 ek2 d_M_guarded_148 ?_
    refine z_icmp_eq (tgt := 156) (pc := 149) X d_M_guarded_149 (by decide) (fun hc => ?_) (fun hc => ?_)
    · have hw := hw.1 hc
      exact z_to [1, 2, 3, 4, 5, 6, 0, 8, 9] rfl (kb_M_guarded_156 X hK29 hK56 hw)
    · have hw := hw.2 hc
      refine z_iconst (v := (1 : Int32)) (pc := 152) X d_M_guarded_152 (by decide) ?_
      refine z_goto (tgt := 157) (pc := 153) X d_M_guarded_153 (by decide) ?_
      refine z_istore (pc := 157) X d_M_guarded_157 (by decide) rfl ?_
      refine z_iinc (v := (x10 + 1)) (pc := 159) X 9 d_M_guarded_159 rfl rfl (by decide) rfl ?_
      refine z_goto (tgt := 56) (pc := 162) X d_M_guarded_162 (by decide) ?_
      exact z_to [3, 4, 5, 6, 7, 8, 2, 1, 9, 0] rfl (hK56 _ _ _ _ _ _ _ _ _ _ hw)
set_option maxHeartbeats 4000000 in
set_option maxRecDepth 100000 in
theorem kb_M_guarded_127 {Q : Int32 → RS → Prop} (X : Cx p l R s m args meth c b_M_guarded 11 R_M (some .boolean) D clM (tyM q) a 24 0 0 tbW) {K29 : RS → Int32 → Int32 → Int32 → Int64 → Int32 → Int32 → Int32 → Int32 → Prop} (hK29 : ∀ (h : RS) (x1 : Int32) (x2 : Int32) (x3 : Int32) (x4 : Int64) (x6 : Int32) (x7 : Int32) (x8 : Int32) (x9 : Int32), K29 h x1 x2 x3 x4 x6 x7 x8 x9 → Z p l e R s m args below meth c D clM 24 a (ceM a q) 11 (MQ below (va_Qi Q (AtC D clM 24 a (ceM a q)) (inW a 24)) args s 0 0 (inW a 24)) h 29 [(0, .ref (a 0)), (1, .int x1), (2, .int x2), (3, .int x3), (4, .long x4), (6, .int x6), (7, .int x7), (8, .int x8), (9, .int x9)] []) {K56 : RS → Int32 → Int32 → Int32 → Int64 → Int32 → Int32 → Int32 → Int32 → Int32 → Prop} (hK56 : ∀ (h : RS) (x1 : Int32) (x2 : Int32) (x3 : Int32) (x4 : Int64) (x6 : Int32) (x7 : Int32) (x8 : Int32) (x9 : Int32) (x10 : Int32), K56 h x1 x2 x3 x4 x6 x7 x8 x9 x10 → Z p l e R s m args below meth c D clM 24 a (ceM a q) 11 (MQ below (va_Qi Q (AtC D clM 24 a (ceM a q)) (inW a 24)) args s 0 0 (inW a 24)) h 56 [(0, .ref (a 0)), (1, .int x1), (2, .int x2), (3, .int x3), (4, .long x4), (6, .int x6), (7, .int x7), (8, .int x8), (9, .int x9), (10, .int x10)] []) {h : RS} {x1 : Int32} {x2 : Int32} {x3 : Int32} {x4 : Int64} {x6 : Int32} {x8 : Int32} {x9 : Int32} {x10 : Int32} (hw : bp_M_guarded_127 K29 K56 Q h x1 x2 x3 x4 x6 x8 x9 x10) : Z p l e R s m args below meth c D clM 24 a (ceM a q) 11 (MQ below (va_Qi Q (AtC D clM 24 a (ceM a q)) (inW a 24)) args s 0 0 (inW a 24)) h 127 [(0, .ref (a 0)), (1, .int x1), (2, .int x2), (3, .int x3), (4, .long x4), (6, .int x6), (8, .int x8), (9, .int x9), (10, .int x10)] [] := by
  unfold bp_M_guarded_127 at hw
  refine z_iconst (v := (0 : Int32)) (pc := 127) X d_M_guarded_127 (by decide) ?_
  exact z_to [0, 1, 2, 3, 4, 5, 6, 7, 8] rfl (kb_M_guarded_128 X hK29 hK56 hw)
set_option maxHeartbeats 4000000 in
set_option maxRecDepth 100000 in
theorem kb_M_guarded_99 {Q : Int32 → RS → Prop} (X : Cx p l R s m args meth c b_M_guarded 11 R_M (some .boolean) D clM (tyM q) a 24 0 0 tbW) {K29 : RS → Int32 → Int32 → Int32 → Int64 → Int32 → Int32 → Int32 → Int32 → Prop} (hK29 : ∀ (h : RS) (x1 : Int32) (x2 : Int32) (x3 : Int32) (x4 : Int64) (x6 : Int32) (x7 : Int32) (x8 : Int32) (x9 : Int32), K29 h x1 x2 x3 x4 x6 x7 x8 x9 → Z p l e R s m args below meth c D clM 24 a (ceM a q) 11 (MQ below (va_Qi Q (AtC D clM 24 a (ceM a q)) (inW a 24)) args s 0 0 (inW a 24)) h 29 [(0, .ref (a 0)), (1, .int x1), (2, .int x2), (3, .int x3), (4, .long x4), (6, .int x6), (7, .int x7), (8, .int x8), (9, .int x9)] []) {K56 : RS → Int32 → Int32 → Int32 → Int64 → Int32 → Int32 → Int32 → Int32 → Int32 → Prop} (hK56 : ∀ (h : RS) (x1 : Int32) (x2 : Int32) (x3 : Int32) (x4 : Int64) (x6 : Int32) (x7 : Int32) (x8 : Int32) (x9 : Int32) (x10 : Int32), K56 h x1 x2 x3 x4 x6 x7 x8 x9 x10 → Z p l e R s m args below meth c D clM 24 a (ceM a q) 11 (MQ below (va_Qi Q (AtC D clM 24 a (ceM a q)) (inW a 24)) args s 0 0 (inW a 24)) h 56 [(0, .ref (a 0)), (1, .int x1), (2, .int x2), (3, .int x3), (4, .long x4), (6, .int x6), (7, .int x7), (8, .int x8), (9, .int x9), (10, .int x10)] []) {h : RS} {x1 : Int32} {x2 : Int32} {x3 : Int32} {x4 : Int64} {x7 : Int32} {x8 : Int32} {x9 : Int32} {x10 : Int32} {y0 : Int32} (hw : bp_M_guarded_99 K29 K56 Q h x1 x2 x3 x4 x7 x8 x9 x10 y0) : Z p l e R s m args below meth c D clM 24 a (ceM a q) 11 (MQ below (va_Qi Q (AtC D clM 24 a (ceM a q)) (inW a 24)) args s 0 0 (inW a 24)) h 99 [(0, .ref (a 0)), (1, .int x1), (2, .int x2), (3, .int x3), (4, .long x4), (7, .int x7), (8, .int x8), (9, .int x9), (10, .int x10)] [.int y0] := by
  unfold bp_M_guarded_99 at hw
  refine z_istore (pc := 99) X d_M_guarded_99 (by decide) rfl ?_
  refine z_iload (pc := 101) X 6 d_M_guarded_101 rfl ?_
  refine z_if_eq (tgt := 127) (pc := 103) X d_M_guarded_103 (by decide) (fun hc => ?_) (fun hc => ?_)
  · have hw := hw.1 hc
    exact z_to [1, 2, 3, 4, 5, 0, 7, 8, 9] rfl (kb_M_guarded_127 X hK29 hK56 hw)
  · have hw := hw.2 hc
    refine z_aload_n (pc := 106) X 1 d_M_guarded_106 rfl rfl ?_
    refine z_get (i := 0) (pc := 107) X (by decide) (cM_M _) rfl hin_M 27 (by decide) lk211 rfl rfl d_M_guarded_107 ?_
    refine z_iload (pc := 110) X 9 d_M_guarded_110 rfl ?_
    obtain ⟨k3, hk3, ek3, hw⟩ := hw
    refine z_iald (i := 23) (pc := 112) X 0 (by decide) (cM__tried _) rfl (by decide) hk3 ek3 d_M_guarded_112 ?_
    refine z_aload_n (pc := 113) X 1 d_M_guarded_113 rfl rfl ?_
    refine z_get (i := 0) (pc := 114) X (by decide) (cM_M _) rfl hin_M 27 (by decide) lk211 rfl rfl d_M_guarded_114 ?_
    refine z_iload (pc := 117) X 8 d_M_guarded_117 rfl ?_
    obtain ⟨k4, hk4, ek4, hw⟩ := hw
    refine z_iald (i := 23) (pc := 119) X 0 (by decide) (cM__tried _) rfl (by decide) hk4 ek4 d_M_guarded_119 ?_
    refine z_icmp_ne (tgt := 127) (pc := 120) X d_M_guarded_120 (by decide) (fun hc => ?_) (fun hc => ?_)
    · have hw := hw.1 hc
      exact z_to [1, 2, 3, 4, 5, 0, 7, 8, 9] rfl (kb_M_guarded_127 X hK29 hK56 hw)
    · have hw := hw.2 hc
      refine z_iconst (v := (1 : Int32)) (pc := 123) X d_M_guarded_123 (by decide) ?_
      refine z_goto (tgt := 128) (pc := 124) X d_M_guarded_124 (by decide) ?_
      exact z_to [1, 2, 3, 4, 5, 0, 7, 8, 9] rfl (kb_M_guarded_128 X hK29 hK56 hw)
set_option maxHeartbeats 4000000 in
set_option maxRecDepth 100000 in
theorem kb_M_guarded_98 {Q : Int32 → RS → Prop} (X : Cx p l R s m args meth c b_M_guarded 11 R_M (some .boolean) D clM (tyM q) a 24 0 0 tbW) {K29 : RS → Int32 → Int32 → Int32 → Int64 → Int32 → Int32 → Int32 → Int32 → Prop} (hK29 : ∀ (h : RS) (x1 : Int32) (x2 : Int32) (x3 : Int32) (x4 : Int64) (x6 : Int32) (x7 : Int32) (x8 : Int32) (x9 : Int32), K29 h x1 x2 x3 x4 x6 x7 x8 x9 → Z p l e R s m args below meth c D clM 24 a (ceM a q) 11 (MQ below (va_Qi Q (AtC D clM 24 a (ceM a q)) (inW a 24)) args s 0 0 (inW a 24)) h 29 [(0, .ref (a 0)), (1, .int x1), (2, .int x2), (3, .int x3), (4, .long x4), (6, .int x6), (7, .int x7), (8, .int x8), (9, .int x9)] []) {K56 : RS → Int32 → Int32 → Int32 → Int64 → Int32 → Int32 → Int32 → Int32 → Int32 → Prop} (hK56 : ∀ (h : RS) (x1 : Int32) (x2 : Int32) (x3 : Int32) (x4 : Int64) (x6 : Int32) (x7 : Int32) (x8 : Int32) (x9 : Int32) (x10 : Int32), K56 h x1 x2 x3 x4 x6 x7 x8 x9 x10 → Z p l e R s m args below meth c D clM 24 a (ceM a q) 11 (MQ below (va_Qi Q (AtC D clM 24 a (ceM a q)) (inW a 24)) args s 0 0 (inW a 24)) h 56 [(0, .ref (a 0)), (1, .int x1), (2, .int x2), (3, .int x3), (4, .long x4), (6, .int x6), (7, .int x7), (8, .int x8), (9, .int x9), (10, .int x10)] []) {h : RS} {x1 : Int32} {x2 : Int32} {x3 : Int32} {x4 : Int64} {x7 : Int32} {x8 : Int32} {x9 : Int32} {x10 : Int32} (hw : bp_M_guarded_98 K29 K56 Q h x1 x2 x3 x4 x7 x8 x9 x10) : Z p l e R s m args below meth c D clM 24 a (ceM a q) 11 (MQ below (va_Qi Q (AtC D clM 24 a (ceM a q)) (inW a 24)) args s 0 0 (inW a 24)) h 98 [(0, .ref (a 0)), (1, .int x1), (2, .int x2), (3, .int x3), (4, .long x4), (7, .int x7), (8, .int x8), (9, .int x9), (10, .int x10)] [] := by
  unfold bp_M_guarded_98 at hw
  refine z_iconst (v := (0 : Int32)) (pc := 98) X d_M_guarded_98 (by decide) ?_
  exact z_to [0, 1, 2, 3, 4, 5, 6, 7, 8] rfl (kb_M_guarded_99 X hK29 hK56 hw)
set_option maxHeartbeats 4000000 in
set_option maxRecDepth 100000 in
theorem kb_M_guarded_94 {Q : Int32 → RS → Prop} (X : Cx p l R s m args meth c b_M_guarded 11 R_M (some .boolean) D clM (tyM q) a 24 0 0 tbW) {K29 : RS → Int32 → Int32 → Int32 → Int64 → Int32 → Int32 → Int32 → Int32 → Prop} (hK29 : ∀ (h : RS) (x1 : Int32) (x2 : Int32) (x3 : Int32) (x4 : Int64) (x6 : Int32) (x7 : Int32) (x8 : Int32) (x9 : Int32), K29 h x1 x2 x3 x4 x6 x7 x8 x9 → Z p l e R s m args below meth c D clM 24 a (ceM a q) 11 (MQ below (va_Qi Q (AtC D clM 24 a (ceM a q)) (inW a 24)) args s 0 0 (inW a 24)) h 29 [(0, .ref (a 0)), (1, .int x1), (2, .int x2), (3, .int x3), (4, .long x4), (6, .int x6), (7, .int x7), (8, .int x8), (9, .int x9)] []) {K56 : RS → Int32 → Int32 → Int32 → Int64 → Int32 → Int32 → Int32 → Int32 → Int32 → Prop} (hK56 : ∀ (h : RS) (x1 : Int32) (x2 : Int32) (x3 : Int32) (x4 : Int64) (x6 : Int32) (x7 : Int32) (x8 : Int32) (x9 : Int32) (x10 : Int32), K56 h x1 x2 x3 x4 x6 x7 x8 x9 x10 → Z p l e R s m args below meth c D clM 24 a (ceM a q) 11 (MQ below (va_Qi Q (AtC D clM 24 a (ceM a q)) (inW a 24)) args s 0 0 (inW a 24)) h 56 [(0, .ref (a 0)), (1, .int x1), (2, .int x2), (3, .int x3), (4, .long x4), (6, .int x6), (7, .int x7), (8, .int x8), (9, .int x9), (10, .int x10)] []) {h : RS} {x1 : Int32} {x2 : Int32} {x3 : Int32} {x4 : Int64} {x7 : Int32} {x8 : Int32} {x9 : Int32} {x10 : Int32} (hw : bp_M_guarded_94 K29 K56 Q h x1 x2 x3 x4 x7 x8 x9 x10) : Z p l e R s m args below meth c D clM 24 a (ceM a q) 11 (MQ below (va_Qi Q (AtC D clM 24 a (ceM a q)) (inW a 24)) args s 0 0 (inW a 24)) h 94 [(0, .ref (a 0)), (1, .int x1), (2, .int x2), (3, .int x3), (4, .long x4), (7, .int x7), (8, .int x8), (9, .int x9), (10, .int x10)] [] := by
  unfold bp_M_guarded_94 at hw
  refine z_iconst (v := (1 : Int32)) (pc := 94) X d_M_guarded_94 (by decide) ?_
  refine z_goto (tgt := 99) (pc := 95) X d_M_guarded_95 (by decide) ?_
  exact z_to [0, 1, 2, 3, 4, 5, 6, 7, 8] rfl (kb_M_guarded_99 X hK29 hK56 hw)
set_option maxHeartbeats 4000000 in
set_option maxRecDepth 100000 in
theorem kb_M_guarded_56 {Q : Int32 → RS → Prop} (X : Cx p l R s m args meth c b_M_guarded 11 R_M (some .boolean) D clM (tyM q) a 24 0 0 tbW) {K29 : RS → Int32 → Int32 → Int32 → Int64 → Int32 → Int32 → Int32 → Int32 → Prop} (hK29 : ∀ (h : RS) (x1 : Int32) (x2 : Int32) (x3 : Int32) (x4 : Int64) (x6 : Int32) (x7 : Int32) (x8 : Int32) (x9 : Int32), K29 h x1 x2 x3 x4 x6 x7 x8 x9 → Z p l e R s m args below meth c D clM 24 a (ceM a q) 11 (MQ below (va_Qi Q (AtC D clM 24 a (ceM a q)) (inW a 24)) args s 0 0 (inW a 24)) h 29 [(0, .ref (a 0)), (1, .int x1), (2, .int x2), (3, .int x3), (4, .long x4), (6, .int x6), (7, .int x7), (8, .int x8), (9, .int x9)] []) {K56 : RS → Int32 → Int32 → Int32 → Int64 → Int32 → Int32 → Int32 → Int32 → Int32 → Prop} (hK56 : ∀ (h : RS) (x1 : Int32) (x2 : Int32) (x3 : Int32) (x4 : Int64) (x6 : Int32) (x7 : Int32) (x8 : Int32) (x9 : Int32) (x10 : Int32), K56 h x1 x2 x3 x4 x6 x7 x8 x9 x10 → Z p l e R s m args below meth c D clM 24 a (ceM a q) 11 (MQ below (va_Qi Q (AtC D clM 24 a (ceM a q)) (inW a 24)) args s 0 0 (inW a 24)) h 56 [(0, .ref (a 0)), (1, .int x1), (2, .int x2), (3, .int x3), (4, .long x4), (6, .int x6), (7, .int x7), (8, .int x8), (9, .int x9), (10, .int x10)] []) {h : RS} {x1 : Int32} {x2 : Int32} {x3 : Int32} {x4 : Int64} {x6 : Int32} {x7 : Int32} {x8 : Int32} {x9 : Int32} {x10 : Int32} (hw : bp_M_guarded_56 K29 K56 Q h x1 x2 x3 x4 x6 x7 x8 x9 x10) : Z p l e R s m args below meth c D clM 24 a (ceM a q) 11 (MQ below (va_Qi Q (AtC D clM 24 a (ceM a q)) (inW a 24)) args s 0 0 (inW a 24)) h 56 [(0, .ref (a 0)), (1, .int x1), (2, .int x2), (3, .int x3), (4, .long x4), (6, .int x6), (7, .int x7), (8, .int x8), (9, .int x9), (10, .int x10)] [] := by
  unfold bp_M_guarded_56 at hw
  refine z_iload (pc := 56) X 9 d_M_guarded_56 rfl ?_
  refine z_iload (pc := 58) X 8 d_M_guarded_58 rfl ?_
  refine z_icmp_ge (tgt := 165) (pc := 60) X d_M_guarded_60 (by decide) (fun hc => ?_) (fun hc => ?_)
  · have hw := hw.1 hc
    refine z_iinc (v := (x9 + 1)) (pc := 165) X 8 d_M_guarded_165 rfl rfl (by decide) rfl ?_
    refine z_goto (tgt := 29) (pc := 168) X d_M_guarded_168 (by decide) ?_
    exact z_to [1, 2, 3, 4, 5, 6, 7, 8, 0] rfl (hK29 _ _ _ _ _ _ _ _ _ hw)
  · have hw := hw.2 hc
    refine z_iload (pc := 63) X 5 d_M_guarded_63 rfl ?_
    refine z_if_eq (tgt := 98) (pc := 65) X d_M_guarded_65 (by decide) (fun hc => ?_) (fun hc => ?_)
    · have hw := hw.1 hc
      exact z_to [0, 1, 2, 3, 4, 6, 7, 8, 9] rfl (kb_M_guarded_98 X hK29 hK56 hw)
    · have hw := hw.2 hc
      refine z_iload (pc := 68) X 9 d_M_guarded_68 rfl ?_
      refine z_iload (pc := 70) X 8 d_M_guarded_70 rfl ?_
      refine z_iconst (v := (1 : Int32)) (pc := 72) X d_M_guarded_72 (by decide) ?_
      refine z_isub (pc := 73) X d_M_guarded_73 ?_
      refine z_icmp_lt (tgt := 94) (pc := 74) X d_M_guarded_74 (by decide) (fun hc => ?_) (fun hc => ?_)
      · have hw := hw.1 hc
        exact z_to [0, 1, 2, 3, 4, 6, 7, 8, 9] rfl (kb_M_guarded_94 X hK29 hK56 hw)
      · have hw := hw.2 hc
        refine z_aload_n (pc := 77) X 0 d_M_guarded_77 rfl rfl ?_
        refine z_get (i := 0) (pc := 78) X (by decide) (cM_M _) rfl hin_M 27 (by decide) lk211 rfl rfl d_M_guarded_78 ?_
        refine z_iload (pc := 81) X 9 d_M_guarded_81 rfl ?_
        obtain ⟨k5, hk5, ek5, hw⟩ := hw
        refine z_iald (i := 23) (pc := 83) X 0 (by decide) (cM__tried _) rfl (by decide) hk5 ek5 d_M_guarded_83 ?_
        refine z_aload_n (pc := 84) X 0 d_M_guarded_84 rfl rfl ?_
        refine z_get (i := 0) (pc := 85) X (by decide) (cM_M _) rfl hin_M 27 (by decide) lk211 rfl rfl d_M_guarded_85 ?_
        refine z_iload (pc := 88) X 8 d_M_guarded_88 rfl ?_
        obtain ⟨k6, hk6, ek6, hw⟩ := hw
        refine z_iald (i := 23) (pc := 90) X 0 (by decide) (cM__tried _) rfl (by decide) hk6 ek6 d_M_guarded_90 ?_
        refine z_icmp_ge (tgt := 98) (pc := 91) X d_M_guarded_91 (by decide) (fun hc => ?_) (fun hc => ?_)
        · have hw := hw.1 hc
          exact z_to [0, 1, 2, 3, 4, 6, 7, 8, 9] rfl (kb_M_guarded_98 X hK29 hK56 hw)
        · have hw := hw.2 hc
          exact z_to [0, 1, 2, 3, 4, 6, 7, 8, 9] rfl (kb_M_guarded_94 X hK29 hK56 hw)
theorem kl_M_guarded_56 {Q : Int32 → RS → Prop} (X : Cx p l R s m args meth c b_M_guarded 11 R_M (some .boolean) D clM (tyM q) a 24 0 0 tbW) {K29 : RS → Int32 → Int32 → Int32 → Int64 → Int32 → Int32 → Int32 → Int32 → Prop} (hK29 : ∀ (h : RS) (x1 : Int32) (x2 : Int32) (x3 : Int32) (x4 : Int64) (x6 : Int32) (x7 : Int32) (x8 : Int32) (x9 : Int32), K29 h x1 x2 x3 x4 x6 x7 x8 x9 → Z p l e R s m args below meth c D clM 24 a (ceM a q) 11 (MQ below (va_Qi Q (AtC D clM 24 a (ceM a q)) (inW a 24)) args s 0 0 (inW a 24)) h 29 [(0, .ref (a 0)), (1, .int x1), (2, .int x2), (3, .int x3), (4, .long x4), (6, .int x6), (7, .int x7), (8, .int x8), (9, .int x9)] []) : ∀ (n : Nat) (h : RS) (x1 : Int32) (x2 : Int32) (x3 : Int32) (x4 : Int64) (x6 : Int32) (x7 : Int32) (x8 : Int32) (x9 : Int32) (x10 : Int32), wp_M_guarded_56 K29 Q n h x1 x2 x3 x4 x6 x7 x8 x9 x10 → Z p l e R s m args below meth c D clM 24 a (ceM a q) 11 (MQ below (va_Qi Q (AtC D clM 24 a (ceM a q)) (inW a 24)) args s 0 0 (inW a 24)) h 56 [(0, .ref (a 0)), (1, .int x1), (2, .int x2), (3, .int x3), (4, .long x4), (6, .int x6), (7, .int x7), (8, .int x8), (9, .int x9), (10, .int x10)] [] := by
  intro n
  induction n with
  | zero =>
    intro h x1 x2 x3 x4 x6 x7 x8 x9 x10 hw
    exact hw.elim
  | succ n ih =>
    intro h x1 x2 x3 x4 x6 x7 x8 x9 x10 hw
    exact kb_M_guarded_56 X hK29 ih hw
set_option maxHeartbeats 4000000 in
set_option maxRecDepth 100000 in
theorem kb_M_guarded_29 {Q : Int32 → RS → Prop} (X : Cx p l R s m args meth c b_M_guarded 11 R_M (some .boolean) D clM (tyM q) a 24 0 0 tbW) {K29 : RS → Int32 → Int32 → Int32 → Int64 → Int32 → Int32 → Int32 → Int32 → Prop} (hK29 : ∀ (h : RS) (x1 : Int32) (x2 : Int32) (x3 : Int32) (x4 : Int64) (x6 : Int32) (x7 : Int32) (x8 : Int32) (x9 : Int32), K29 h x1 x2 x3 x4 x6 x7 x8 x9 → Z p l e R s m args below meth c D clM 24 a (ceM a q) 11 (MQ below (va_Qi Q (AtC D clM 24 a (ceM a q)) (inW a 24)) args s 0 0 (inW a 24)) h 29 [(0, .ref (a 0)), (1, .int x1), (2, .int x2), (3, .int x3), (4, .long x4), (6, .int x6), (7, .int x7), (8, .int x8), (9, .int x9)] []) {h : RS} {x1 : Int32} {x2 : Int32} {x3 : Int32} {x4 : Int64} {x6 : Int32} {x7 : Int32} {x8 : Int32} {x9 : Int32} (hw : bp_M_guarded_29 K29 Q h x1 x2 x3 x4 x6 x7 x8 x9) : Z p l e R s m args below meth c D clM 24 a (ceM a q) 11 (MQ below (va_Qi Q (AtC D clM 24 a (ceM a q)) (inW a 24)) args s 0 0 (inW a 24)) h 29 [(0, .ref (a 0)), (1, .int x1), (2, .int x2), (3, .int x3), (4, .long x4), (6, .int x6), (7, .int x7), (8, .int x8), (9, .int x9)] [] := by
  unfold bp_M_guarded_29 at hw
  refine z_iload (pc := 29) X 8 d_M_guarded_29 rfl ?_
  refine z_aload_n (pc := 31) X 0 d_M_guarded_31 rfl rfl ?_
  refine z_get (i := 0) (pc := 32) X (by decide) (cM_M _) rfl hin_M 3 (by decide) lk161 rfl rfl d_M_guarded_32 ?_
  refine z_iload_n (pc := 35) X 1 d_M_guarded_35 rfl rfl ?_
  obtain ⟨k7, hk7, ek7, hw⟩ := hw
  refine z_iald (i := 2) (pc := 36) X 0 (by decide) (cM__parts _) rfl (by decide) hk7 ek7 d_M_guarded_36 ?_
  refine z_icmp_ge (tgt := 171) (pc := 37) X d_M_guarded_37 (by decide) (fun hc => ?_) (fun hc => ?_)
  · have hw := hw.1 hc
    refine z_iload_n (pc := 171) X 2 d_M_guarded_171 rfl rfl ?_
    refine z_if_eq (tgt := 237) (pc := 172) X d_M_guarded_172 (by decide) (fun hc => ?_) (fun hc => ?_)
    · have hw := hw.1 hc
      refine z_iconst (v := (1 : Int32)) (pc := 237) X d_M_guarded_237 (by decide) ?_
      refine z_goto (tgt := 242) (pc := 238) X d_M_guarded_238 (by decide) ?_
      exact z_zret (pc := 242) X hw.1 d_M_guarded_242 hw.2
    · have hw := hw.2 hc
      refine z_iload_n (pc := 175) X 2 d_M_guarded_175 rfl rfl ?_
      refine z_iconst (v := (1 : Int32)) (pc := 176) X d_M_guarded_176 (by decide) ?_
      refine z_icmp_ne (tgt := 185) (pc := 177) X d_M_guarded_177 (by decide) (fun hc => ?_) (fun hc => ?_)
      · have hw := hw.1 hc
        exact z_to [2, 3, 4, 6, 7] rfl (kb_M_guarded_185 X hw)
      · have hw := hw.2 hc
        refine z_iload (pc := 180) X 5 d_M_guarded_180 rfl ?_
        refine z_if_ne (tgt := 237) (pc := 182) X d_M_guarded_182 (by decide) (fun hc => ?_) (fun hc => ?_)
        · have hw := hw.1 hc
          refine z_iconst (v := (1 : Int32)) (pc := 237) X d_M_guarded_237 (by decide) ?_
          refine z_goto (tgt := 242) (pc := 238) X d_M_guarded_238 (by decide) ?_
          exact z_zret (pc := 242) X hw.1 d_M_guarded_242 hw.2
        · have hw := hw.2 hc
          exact z_to [2, 3, 4, 6, 7] rfl (kb_M_guarded_185 X hw)
  · have hw := hw.2 hc
    refine z_lload (pc := 40) X 4 d_M_guarded_40 rfl ?_
    refine z_aload_n (pc := 42) X 0 d_M_guarded_42 rfl rfl ?_
    refine z_get (i := 0) (pc := 43) X (by decide) (cM_M _) rfl hin_M 27 (by decide) lk211 rfl rfl d_M_guarded_43 ?_
    refine z_iload (pc := 46) X 8 d_M_guarded_46 rfl ?_
    obtain ⟨k8, hk8, ek8, hw⟩ := hw
    refine z_iald (i := 23) (pc := 48) X 0 (by decide) (cM__tried _) rfl (by decide) hk8 ek8 d_M_guarded_48 ?_
    refine z_i2l (pc := 49) X d_M_guarded_49 ?_
    refine z_ladd (pc := 50) X d_M_guarded_50 ?_
    refine z_lstore (pc := 51) X d_M_guarded_51 (by decide) rfl ?_
    refine z_iconst (v := (0 : Int32)) (pc := 53) X d_M_guarded_53 (by decide) ?_
    refine z_istore (pc := 54) X d_M_guarded_54 (by decide) rfl ?_
    obtain ⟨n9, hw⟩ := hw
    exact z_to [2, 3, 4, 5, 1, 6, 7, 8, 9, 0] rfl (kl_M_guarded_56 X hK29 n9 _ _ _ _ _ _ _ _ _ _ hw)
theorem kl_M_guarded_29 {Q : Int32 → RS → Prop} (X : Cx p l R s m args meth c b_M_guarded 11 R_M (some .boolean) D clM (tyM q) a 24 0 0 tbW) : ∀ (n : Nat) (h : RS) (x1 : Int32) (x2 : Int32) (x3 : Int32) (x4 : Int64) (x6 : Int32) (x7 : Int32) (x8 : Int32) (x9 : Int32), wp_M_guarded_29 Q n h x1 x2 x3 x4 x6 x7 x8 x9 → Z p l e R s m args below meth c D clM 24 a (ceM a q) 11 (MQ below (va_Qi Q (AtC D clM 24 a (ceM a q)) (inW a 24)) args s 0 0 (inW a 24)) h 29 [(0, .ref (a 0)), (1, .int x1), (2, .int x2), (3, .int x3), (4, .long x4), (6, .int x6), (7, .int x7), (8, .int x8), (9, .int x9)] [] := by
  intro n
  induction n with
  | zero =>
    intro h x1 x2 x3 x4 x6 x7 x8 x9 hw
    exact hw.elim
  | succ n ih =>
    intro h x1 x2 x3 x4 x6 x7 x8 x9 hw
    exact kb_M_guarded_29 X ih hw
set_option maxHeartbeats 4000000 in
set_option maxRecDepth 100000 in
theorem kb_M_guarded_0 {Q : Int32 → RS → Prop} (X : Cx p l R s m args meth c b_M_guarded 11 R_M (some .boolean) D clM (tyM q) a 24 0 0 tbW) {h : RS} {x1 : Int32} (hw : bp_M_guarded_0 Q h x1) : Z p l e R s m args below meth c D clM 24 a (ceM a q) 11 (MQ below (va_Qi Q (AtC D clM 24 a (ceM a q)) (inW a 24)) args s 0 0 (inW a 24)) h 0 [(0, .ref (a 0)), (1, .int x1)] [] := by
  unfold bp_M_guarded_0 at hw
  refine z_aload_n (pc := 0) X 0 d_M_guarded_0 rfl rfl ?_
  refine z_get (i := 0) (pc := 1) X (by decide) (cM_M _) rfl hin_M 7 (by decide) lk172 rfl rfl d_M_guarded_1 ?_
  refine z_iload_n (pc := 4) X 1 d_M_guarded_4 rfl rfl ?_
  obtain ⟨k10, hk10, ek10, hw⟩ := hw
  refine z_iald (i := 6) (pc := 5) X 0 (by decide) (cM__guardKind _) rfl (by decide) hk10 ek10 d_M_guarded_5 ?_
  refine z_istore_n (pc := 6) X d_M_guarded_6 rfl (by decide) rfl ?_
  refine z_aload_n (pc := 7) X 1 d_M_guarded_7 rfl rfl ?_
  refine z_get (i := 0) (pc := 8) X (by decide) (cM_M _) rfl hin_M 8 (by decide) lk173 rfl rfl d_M_guarded_8 ?_
  refine z_iload_n (pc := 11) X 2 d_M_guarded_11 rfl rfl ?_
  obtain ⟨k11, hk11, ek11, hw⟩ := hw
  refine z_iald (i := 7) (pc := 12) X 0 (by decide) (cM__guardNumber _) rfl (by decide) hk11 ek11 d_M_guarded_12 ?_
  refine z_istore_n (pc := 13) X d_M_guarded_13 rfl (by decide) rfl ?_
  refine z_lconst (v := (0 : Int64)) (pc := 14) X d_M_guarded_14 (by decide) ?_
  refine z_lstore (pc := 15) X d_M_guarded_15 (by decide) rfl ?_
  refine z_iconst (v := (1 : Int32)) (pc := 17) X d_M_guarded_17 (by decide) ?_
  refine z_istore (pc := 18) X d_M_guarded_18 (by decide) rfl ?_
  refine z_iconst (v := (1 : Int32)) (pc := 20) X d_M_guarded_20 (by decide) ?_
  refine z_istore (pc := 21) X d_M_guarded_21 (by decide) rfl ?_
  refine z_iconst (v := (1 : Int32)) (pc := 23) X d_M_guarded_23 (by decide) ?_
  refine z_istore (pc := 24) X d_M_guarded_24 (by decide) rfl ?_
  refine z_iconst (v := (0 : Int32)) (pc := 26) X d_M_guarded_26 (by decide) ?_
  refine z_istore (pc := 27) X d_M_guarded_27 (by decide) rfl ?_
  obtain ⟨n12, hw⟩ := hw
  exact z_to [7, 8, 6, 5, 4, 3, 2, 1, 0] rfl (kl_M_guarded_29 X n12 _ _ _ _ _ _ _ _ _ hw)
theorem c_M_guarded {l : Launch} {D : va_G} {a : Nat → Nat} {q : Nat → ClassId} (hI : injW a 24) {h : RS} {x1 : Int32} {Q : Int32 → RS → Prop} (hw : wp_M_guarded h x1 Q) : Met l y_M_guarded [.code y_M_guarded b_M_guarded 11 (some .boolean)] { frames := 0, cells := 0, slots := 0, locals := 0 } (va_Pc [.ref (a 0), .int x1] (PreC tbW D clM (tyM q) 24 a (ceM a q) h)) (va_Qi Q (AtC D clM 24 a (ceM a q)) (inW a 24)) 0 0 (inW a 24) :=
  m_of (by decide +kernel) hI tb_ok (Nat.le_of_ble_eq_true rfl) (fun p e R s m below meth c X => kb_M_guarded_0 X hw)
end
