section
variable {p : Program} {l : Launch} {e : Env} {R : Room} {s : State} {m : MethodId} {args : Array Value} {below : List Frame} {meth : Method} {c : Code} {D : va_G} {a : Nat → Nat} {q : Nat → ClassId}
set_option maxHeartbeats 4000000 in
set_option maxRecDepth 100000 in
theorem kb_M_channel_0 {Q : Int32 → RS → Prop} (X : Cx p l R s m args meth c b_M_channel 2 R_M (some .int) D clM (tyM q) a 24 0 0 tbW) {h : RS} {x1 : Int32} (hw : bp_M_channel_0 Q h x1) : Z p l e R s m args below meth c D clM 24 a (ceM a q) 2 (MQ below (va_Qi Q (AtC D clM 24 a (ceM a q)) (inW a 24)) args s 0 0 (inW a 24)) h 0 [(0, .ref (a 0)), (1, .int x1)] [] := by
  unfold bp_M_channel_0 at hw
  refine z_aload_n (pc := 0) X 0 d_M_channel_0 rfl rfl ?_
  refine z_get (i := 0) (pc := 1) X (by decide) (cM_M _) rfl hin_M 15 (by decide) lk157 rfl rfl d_M_channel_1 ?_
  refine z_if_ne (tgt := 16) (pc := 4) X d_M_channel_4 (by decide) (fun hc => ?_) (fun hc => ?_)
  · have hw := hw.1 hc
    refine z_iconst (v := (-1 : Int32)) (pc := 16) X d_M_channel_16 (by decide) ?_
    exact z_iret (pc := 17) X d_M_channel_17 hw
  · have hw := hw.2 hc
    refine z_aload_n (pc := 7) X 0 d_M_channel_7 rfl rfl ?_
    refine z_get (i := 0) (pc := 8) X (by decide) (cM_M _) rfl hin_M 0 (by decide) lk158 rfl rfl d_M_channel_8 ?_
    refine z_bipush (v := (8 : Int32)) (pc := 11) X d_M_channel_11 (by decide) ?_
    refine z_icmp_lt (tgt := 18) (pc := 13) X d_M_channel_13 (by decide) (fun hc => ?_) (fun hc => ?_)
    · have hw := hw.1 hc
      refine z_aload_n (pc := 18) X 0 d_M_channel_18 rfl rfl ?_
      refine z_get (i := 0) (pc := 19) X (by decide) (cM_M _) rfl hin_M 1 (by decide) lk159 rfl rfl d_M_channel_19 ?_
      refine z_aload_n (pc := 22) X 0 d_M_channel_22 rfl rfl ?_
      refine z_get (i := 0) (pc := 23) X (by decide) (cM_M _) rfl hin_M 0 (by decide) lk158 rfl rfl d_M_channel_23 ?_
      refine z_iload_n (pc := 26) X 1 d_M_channel_26 rfl rfl ?_
      obtain ⟨k1, hk1, ek1, hw⟩ := hw
      obtain ⟨hB, hw⟩ := hw
      refine z_zast (i := 1) (pc := 27) X 1 (by decide) (fun g => (cM__answered g)) rfl (by decide) hk1 ek1 hB d_M_channel_27 ?_
      have hw := hw _ rfl
      refine z_aload_n (pc := 28) X 0 d_M_channel_28 rfl rfl ?_
      refine z_aload_n (pc := 29) X 0 d_M_channel_29 rfl rfl ?_
      refine z_get (i := 0) (pc := 30) X (by decide) (cM_M _) rfl hin_M 0 (by decide) lk158 rfl rfl d_M_channel_30 ?_
      refine z_iconst (v := (1 : Int32)) (pc := 33) X d_M_channel_33 (by decide) ?_
      refine z_iadd (pc := 34) X d_M_channel_34 ?_
      refine z_put (i := 0) (pc := 35) X (by decide) (cM_M _) rfl hin_M t_M t_M_ok n_M 0 (by decide) lk158 rfl rfl (t_M_ok 0 (by decide)) rfl rfl (Nat.le_of_ble_eq_true rfl) (cM_M _) d_M_channel_35 ?_
      have hw := hw _ rfl
      refine z_aload_n (pc := 38) X 0 d_M_channel_38 rfl rfl ?_
      refine z_get (i := 0) (pc := 39) X (by decide) (cM_M _) rfl hin_M 0 (by decide) lk158 rfl rfl d_M_channel_39 ?_
      refine z_iconst (v := (1 : Int32)) (pc := 42) X d_M_channel_42 (by decide) ?_
      refine z_isub (pc := 43) X d_M_channel_43 ?_
      exact z_iret (pc := 44) X d_M_channel_44 hw
    · have hw := hw.2 hc
      refine z_iconst (v := (-1 : Int32)) (pc := 16) X d_M_channel_16 (by decide) ?_
      exact z_iret (pc := 17) X d_M_channel_17 hw
theorem c_M_channel {l : Launch} {D : va_G} {a : Nat → Nat} {q : Nat → ClassId} (hI : injW a 24) {h : RS} {x1 : Int32} {Q : Int32 → RS → Prop} (hw : wp_M_channel h x1 Q) : Met l y_M_channel [.code y_M_channel b_M_channel 2 (some .int)] { frames := 0, cells := 0, slots := 0, locals := 0 } (va_Pc [.ref (a 0), .int x1] (PreC tbW D clM (tyM q) 24 a (ceM a q) h)) (va_Qi Q (AtC D clM 24 a (ceM a q)) (inW a 24)) 0 0 (inW a 24) :=
  m_of (by decide +kernel) hI tb_ok (Nat.le_of_ble_eq_true rfl) (fun p e R s m below meth c X => kb_M_channel_0 X hw)
set_option maxHeartbeats 4000000 in
set_option maxRecDepth 100000 in
theorem kb_M_reaction_0 {Q : Int32 → RS → Prop} (X : Cx p l R s m args meth c b_M_reaction 1 R_M (some .int) D clM (tyM q) a 24 0 0 tbW) {h : RS} (hw : bp_M_reaction_0 Q h) : Z p l e R s m args below meth c D clM 24 a (ceM a q) 1 (MQ below (va_Qi Q (AtC D clM 24 a (ceM a q)) (inW a 24)) args s 0 0 (inW a 24)) h 0 [(0, .ref (a 0))] [] := by
  unfold bp_M_reaction_0 at hw
  refine z_aload_n (pc := 0) X 0 d_M_reaction_0 rfl rfl ?_
  refine z_get (i := 0) (pc := 1) X (by decide) (cM_M _) rfl hin_M 15 (by decide) lk157 rfl rfl d_M_reaction_1 ?_
  refine z_if_ne (tgt := 16) (pc := 4) X d_M_reaction_4 (by decide) (fun hc => ?_) (fun hc => ?_)
  · have hw := hw.1 hc
    refine z_iconst (v := (-1 : Int32)) (pc := 16) X d_M_reaction_16 (by decide) ?_
    exact z_iret (pc := 17) X d_M_reaction_17 hw
  · have hw := hw.2 hc
    refine z_aload_n (pc := 7) X 0 d_M_reaction_7 rfl rfl ?_
    refine z_get (i := 0) (pc := 8) X (by decide) (cM_M _) rfl hin_M 2 (by decide) lk160 rfl rfl d_M_reaction_8 ?_
    refine z_bipush (v := (8 : Int32)) (pc := 11) X d_M_reaction_11 (by decide) ?_
    refine z_icmp_lt (tgt := 18) (pc := 13) X d_M_reaction_13 (by decide) (fun hc => ?_) (fun hc => ?_)
    · have hw := hw.1 hc
      refine z_aload_n (pc := 18) X 0 d_M_reaction_18 rfl rfl ?_
      refine z_aload_n (pc := 19) X 0 d_M_reaction_19 rfl rfl ?_
      refine z_get (i := 0) (pc := 20) X (by decide) (cM_M _) rfl hin_M 2 (by decide) lk160 rfl rfl d_M_reaction_20 ?_
      refine z_iconst (v := (1 : Int32)) (pc := 23) X d_M_reaction_23 (by decide) ?_
      refine z_iadd (pc := 24) X d_M_reaction_24 ?_
      refine z_put (i := 0) (pc := 25) X (by decide) (cM_M _) rfl hin_M t_M t_M_ok n_M 2 (by decide) lk160 rfl rfl (t_M_ok 2 (by decide)) rfl rfl (Nat.le_of_ble_eq_true rfl) (cM_M _) d_M_reaction_25 ?_
      have hw := hw _ rfl
      refine z_aload_n (pc := 28) X 0 d_M_reaction_28 rfl rfl ?_
      refine z_get (i := 0) (pc := 29) X (by decide) (cM_M _) rfl hin_M 2 (by decide) lk160 rfl rfl d_M_reaction_29 ?_
      refine z_iconst (v := (1 : Int32)) (pc := 32) X d_M_reaction_32 (by decide) ?_
      refine z_isub (pc := 33) X d_M_reaction_33 ?_
      exact z_iret (pc := 34) X d_M_reaction_34 hw
    · have hw := hw.2 hc
      refine z_iconst (v := (-1 : Int32)) (pc := 16) X d_M_reaction_16 (by decide) ?_
      exact z_iret (pc := 17) X d_M_reaction_17 hw
theorem c_M_reaction {l : Launch} {D : va_G} {a : Nat → Nat} {q : Nat → ClassId} (hI : injW a 24) {h : RS} {Q : Int32 → RS → Prop} (hw : wp_M_reaction h Q) : Met l y_M_reaction [.code y_M_reaction b_M_reaction 1 (some .int)] { frames := 0, cells := 0, slots := 0, locals := 0 } (va_Pc [.ref (a 0)] (PreC tbW D clM (tyM q) 24 a (ceM a q) h)) (va_Qi Q (AtC D clM 24 a (ceM a q)) (inW a 24)) 0 0 (inW a 24) :=
  m_of (by decide +kernel) hI tb_ok (Nat.le_of_ble_eq_true rfl) (fun p e R s m below meth c X => kb_M_reaction_0 X hw)
set_option maxHeartbeats 4000000 in
set_option maxRecDepth 100000 in
theorem kb_M_open_0 {Q : Int32 → RS → Prop} (X : Cx p l R s m args meth c b_M_open 2 R_M (some .boolean) D clM (tyM q) a 24 0 0 tbW) {h : RS} {x1 : Int32} (hw : bp_M_open_0 Q h x1) : Z p l e R s m args below meth c D clM 24 a (ceM a q) 2 (MQ below (va_Qi Q (AtC D clM 24 a (ceM a q)) (inW a 24)) args s 0 0 (inW a 24)) h 0 [(0, .ref (a 0)), (1, .int x1)] [] := by
  unfold bp_M_open_0 at hw
  refine z_aload_n (pc := 0) X 0 d_M_open_0 rfl rfl ?_
  refine z_get (i := 0) (pc := 1) X (by decide) (cM_M _) rfl hin_M 15 (by decide) lk157 rfl rfl d_M_open_1 ?_
  refine z_if_ne (tgt := 23) (pc := 4) X d_M_open_4 (by decide) (fun hc => ?_) (fun hc => ?_)
  · have hw := hw.1 hc
    refine z_iconst (v := (0 : Int32)) (pc := 23) X d_M_open_23 (by decide) ?_
    exact z_zret (pc := 24) X hw.1 d_M_open_24 hw.2
  · have hw := hw.2 hc
    refine z_iload_n (pc := 7) X 1 d_M_open_7 rfl rfl ?_
    refine z_if_lt (tgt := 23) (pc := 8) X d_M_open_8 (by decide) (fun hc => ?_) (fun hc => ?_)
    · have hw := hw.1 hc
      refine z_iconst (v := (0 : Int32)) (pc := 23) X d_M_open_23 (by decide) ?_
      exact z_zret (pc := 24) X hw.1 d_M_open_24 hw.2
    · have hw := hw.2 hc
      refine z_iload_n (pc := 11) X 1 d_M_open_11 rfl rfl ?_
      refine z_aload_n (pc := 12) X 0 d_M_open_12 rfl rfl ?_
      refine z_get (i := 0) (pc := 13) X (by decide) (cM_M _) rfl hin_M 2 (by decide) lk160 rfl rfl d_M_open_13 ?_
      refine z_icmp_ge (tgt := 23) (pc := 16) X d_M_open_16 (by decide) (fun hc => ?_) (fun hc => ?_)
      · have hw := hw.1 hc
        refine z_iconst (v := (0 : Int32)) (pc := 23) X d_M_open_23 (by decide) ?_
        exact z_zret (pc := 24) X hw.1 d_M_open_24 hw.2
      · have hw := hw.2 hc
        refine z_iconst (v := (1 : Int32)) (pc := 19) X d_M_open_19 (by decide) ?_
        refine z_goto (tgt := 24) (pc := 20) X d_M_open_20 (by decide) ?_
        exact z_zret (pc := 24) X hw.1 d_M_open_24 hw.2
theorem c_M_open {l : Launch} {D : va_G} {a : Nat → Nat} {q : Nat → ClassId} (hI : injW a 24) {h : RS} {x1 : Int32} {Q : Int32 → RS → Prop} (hw : wp_M_open h x1 Q) : Met l y_M_open [.code y_M_open b_M_open 2 (some .boolean)] { frames := 0, cells := 0, slots := 0, locals := 0 } (va_Pc [.ref (a 0), .int x1] (PreC tbW D clM (tyM q) 24 a (ceM a q) h)) (va_Qi Q (AtC D clM 24 a (ceM a q)) (inW a 24)) 0 0 (inW a 24) :=
  m_of (by decide +kernel) hI tb_ok (Nat.le_of_ble_eq_true rfl) (fun p e R s m below meth c X => kb_M_open_0 X hw)
set_option maxHeartbeats 4000000 in
set_option maxRecDepth 100000 in
theorem kb_M_isChannel_0 {Q : Int32 → RS → Prop} (X : Cx p l R s m args meth c b_M_isChannel 2 R_M (some .boolean) D clM (tyM q) a 24 0 0 tbW) {h : RS} {x1 : Int32} (hw : bp_M_isChannel_0 Q h x1) : Z p l e R s m args below meth c D clM 24 a (ceM a q) 2 (MQ below (va_Qi Q (AtC D clM 24 a (ceM a q)) (inW a 24)) args s 0 0 (inW a 24)) h 0 [(0, .ref (a 0)), (1, .int x1)] [] := by
  unfold bp_M_isChannel_0 at hw
  refine z_iload_n (pc := 0) X 1 d_M_isChannel_0 rfl rfl ?_
  refine z_if_lt (tgt := 16) (pc := 1) X d_M_isChannel_1 (by decide) (fun hc => ?_) (fun hc => ?_)
  · have hw := hw.1 hc
    refine z_iconst (v := (0 : Int32)) (pc := 16) X d_M_isChannel_16 (by decide) ?_
    exact z_zret (pc := 17) X hw.1 d_M_isChannel_17 hw.2
  · have hw := hw.2 hc
    refine z_iload_n (pc := 4) X 1 d_M_isChannel_4 rfl rfl ?_
    refine z_aload_n (pc := 5) X 0 d_M_isChannel_5 rfl rfl ?_
    refine z_get (i := 0) (pc := 6) X (by decide) (cM_M _) rfl hin_M 0 (by decide) lk158 rfl rfl d_M_isChannel_6 ?_
    refine z_icmp_ge (tgt := 16) (pc := 9) X d_M_isChannel_9 (by decide) (fun hc => ?_) (fun hc => ?_)
    · have hw := hw.1 hc
      refine z_iconst (v := (0 : Int32)) (pc := 16) X d_M_isChannel_16 (by decide) ?_
      exact z_zret (pc := 17) X hw.1 d_M_isChannel_17 hw.2
    · have hw := hw.2 hc
      refine z_iconst (v := (1 : Int32)) (pc := 12) X d_M_isChannel_12 (by decide) ?_
      refine z_goto (tgt := 17) (pc := 13) X d_M_isChannel_13 (by decide) ?_
      exact z_zret (pc := 17) X hw.1 d_M_isChannel_17 hw.2
theorem c_M_isChannel {l : Launch} {D : va_G} {a : Nat → Nat} {q : Nat → ClassId} (hI : injW a 24) {h : RS} {x1 : Int32} {Q : Int32 → RS → Prop} (hw : wp_M_isChannel h x1 Q) : Met l y_M_isChannel [.code y_M_isChannel b_M_isChannel 2 (some .boolean)] { frames := 0, cells := 0, slots := 0, locals := 0 } (va_Pc [.ref (a 0), .int x1] (PreC tbW D clM (tyM q) 24 a (ceM a q) h)) (va_Qi Q (AtC D clM 24 a (ceM a q)) (inW a 24)) 0 0 (inW a 24) :=
  m_of (by decide +kernel) hI tb_ok (Nat.le_of_ble_eq_true rfl) (fun p e R s m below meth c X => kb_M_isChannel_0 X hw)
set_option maxHeartbeats 4000000 in
set_option maxRecDepth 100000 in
theorem kb_M_hasPart_0 {Q : Int32 → RS → Prop} (X : Cx p l R s m args meth c b_M_hasPart 3 R_M (some .boolean) D clM (tyM q) a 24 0 0 tbW) {h : RS} {x1 : Int32} {x2 : Int32} (hw : bp_M_hasPart_0 Q h x1 x2) : Z p l e R s m args below meth c D clM 24 a (ceM a q) 3 (MQ below (va_Qi Q (AtC D clM 24 a (ceM a q)) (inW a 24)) args s 0 0 (inW a 24)) h 0 [(0, .ref (a 0)), (1, .int x1), (2, .int x2)] [] := by
  unfold bp_M_hasPart_0 at hw
  refine z_iload_n (pc := 0) X 2 d_M_hasPart_0 rfl rfl ?_
  refine z_if_lt (tgt := 18) (pc := 1) X d_M_hasPart_1 (by decide) (fun hc => ?_) (fun hc => ?_)
  · have hw := hw.1 hc
    refine z_iconst (v := (0 : Int32)) (pc := 18) X d_M_hasPart_18 (by decide) ?_
    exact z_zret (pc := 19) X hw.1 d_M_hasPart_19 hw.2
  · have hw := hw.2 hc
    refine z_iload_n (pc := 4) X 2 d_M_hasPart_4 rfl rfl ?_
    refine z_aload_n (pc := 5) X 0 d_M_hasPart_5 rfl rfl ?_
    refine z_get (i := 0) (pc := 6) X (by decide) (cM_M _) rfl hin_M 3 (by decide) lk161 rfl rfl d_M_hasPart_6 ?_
    refine z_iload_n (pc := 9) X 1 d_M_hasPart_9 rfl rfl ?_
    obtain ⟨k1, hk1, ek1, hw⟩ := hw
    refine z_iald (i := 2) (pc := 10) X 0 (by decide) (cM__parts _) rfl (by decide) hk1 ek1 d_M_hasPart_10 ?_
    refine z_icmp_ge (tgt := 18) (pc := 11) X d_M_hasPart_11 (by decide) (fun hc => ?_) (fun hc => ?_)
    · have hw := hw.1 hc
      refine z_iconst (v := (0 : Int32)) (pc := 18) X d_M_hasPart_18 (by decide) ?_
      exact z_zret (pc := 19) X hw.1 d_M_hasPart_19 hw.2
    · have hw := hw.2 hc
      refine z_iconst (v := (1 : Int32)) (pc := 14) X d_M_hasPart_14 (by decide) ?_
      refine z_goto (tgt := 19) (pc := 15) X d_M_hasPart_15 (by decide) ?_
      exact z_zret (pc := 19) X hw.1 d_M_hasPart_19 hw.2
theorem c_M_hasPart {l : Launch} {D : va_G} {a : Nat → Nat} {q : Nat → ClassId} (hI : injW a 24) {h : RS} {x1 : Int32} {x2 : Int32} {Q : Int32 → RS → Prop} (hw : wp_M_hasPart h x1 x2 Q) : Met l y_M_hasPart [.code y_M_hasPart b_M_hasPart 3 (some .boolean)] { frames := 0, cells := 0, slots := 0, locals := 0 } (va_Pc [.ref (a 0), .int x1, .int x2] (PreC tbW D clM (tyM q) 24 a (ceM a q) h)) (va_Qi Q (AtC D clM 24 a (ceM a q)) (inW a 24)) 0 0 (inW a 24) :=
  m_of (by decide +kernel) hI tb_ok (Nat.le_of_ble_eq_true rfl) (fun p e R s m below meth c X => kb_M_hasPart_0 X hw)
set_option maxHeartbeats 4000000 in
set_option maxRecDepth 100000 in
theorem kb_M_part_0 {Q : Int32 → RS → Prop} (X : Cx p l R s m args meth c b_M_part 6 R_M (some .int) D clM (tyM q) a 24 1 21 tbW) {h : RS} {x1 : Int32} {x2 : Int32} {x3 : Int32} {x4 : Int32} (hw : bp_M_part_0 Q h x1 x2 x3 x4) : Z p l e R s m args below meth c D clM 24 a (ceM a q) 6 (MQ below (va_Qi Q (AtC D clM 24 a (ceM a q)) (inW a 24)) args s 0 0 (inW a 24)) h 0 [(0, .ref (a 0)), (1, .int x1), (2, .int x2), (3, .int x3), (4, .int x4)] [] := by
  unfold bp_M_part_0 at hw
  refine z_aload_n (pc := 0) X 0 d_M_part_0 rfl rfl ?_
  refine z_iload_n (pc := 1) X 1 d_M_part_1 rfl rfl ?_
  refine z_cVi (i := 0) (pc := 2) X [.int _] (c_M_open X.2.2.2.2.2.2.2.2.1 hw) (by decide) (by decide) lk162 cd_M_open lk163 lk164 lk165 (by decide) (cM_M _) rfl nm_M_open rfl rfl (Nat.le_of_ble_eq_true rfl) d_M_part_2 (fun r1 h2 hw => ?_)
  refine z_if_eq (tgt := 35) (pc := 5) X d_M_part_5 (by decide) (fun hc => ?_) (fun hc => ?_)
  · have hw := hw.1 hc
    refine z_iconst (v := (-1 : Int32)) (pc := 35) X d_M_part_35 (by decide) ?_
    exact z_iret (pc := 36) X d_M_part_36 hw
  · have hw := hw.2 hc
    refine z_aload_n (pc := 8) X 0 d_M_part_8 rfl rfl ?_
    refine z_iload_n (pc := 9) X 2 d_M_part_9 rfl rfl ?_
    refine z_cVi (i := 0) (pc := 10) X [.int _] (c_M_isChannel X.2.2.2.2.2.2.2.2.1 hw) (by decide) (by decide) lk166 cd_M_isChannel lk163 lk167 lk168 (by decide) (cM_M _) rfl nm_M_isChannel rfl rfl (Nat.le_of_ble_eq_true rfl) d_M_part_10 (fun r3 h4 hw => ?_)
    refine z_if_eq (tgt := 35) (pc := 13) X d_M_part_13 (by decide) (fun hc => ?_) (fun hc => ?_)
    · have hw := hw.1 hc
      refine z_iconst (v := (-1 : Int32)) (pc := 35) X d_M_part_35 (by decide) ?_
      exact z_iret (pc := 36) X d_M_part_36 hw
    · have hw := hw.2 hc
      refine z_iload_n (pc := 16) X 3 d_M_part_16 rfl rfl ?_
      refine z_if_lt (tgt := 35) (pc := 17) X d_M_part_17 (by decide) (fun hc => ?_) (fun hc => ?_)
      · have hw := hw.1 hc
        refine z_iconst (v := (-1 : Int32)) (pc := 35) X d_M_part_35 (by decide) ?_
        exact z_iret (pc := 36) X d_M_part_36 hw
      · have hw := hw.2 hc
        refine z_iload_n (pc := 20) X 3 d_M_part_20 rfl rfl ?_
        refine z_iconst (v := (4 : Int32)) (pc := 21) X d_M_part_21 (by decide) ?_
        refine z_icmp_gt (tgt := 35) (pc := 22) X d_M_part_22 (by decide) (fun hc => ?_) (fun hc => ?_)
        · have hw := hw.1 hc
          refine z_iconst (v := (-1 : Int32)) (pc := 35) X d_M_part_35 (by decide) ?_
          exact z_iret (pc := 36) X d_M_part_36 hw
        · have hw := hw.2 hc
          refine z_aload_n (pc := 25) X 0 d_M_part_25 rfl rfl ?_
          refine z_get (i := 0) (pc := 26) X (by decide) (cM_M _) rfl hin_M 3 (by decide) lk161 rfl rfl d_M_part_26 ?_
          refine z_iload_n (pc := 29) X 1 d_M_part_29 rfl rfl ?_
          obtain ⟨k5, hk5, ek5, hw⟩ := hw
          refine z_iald (i := 2) (pc := 30) X 0 (by decide) (cM__parts _) rfl (by decide) hk5 ek5 d_M_part_30 ?_
          refine z_iconst (v := (4 : Int32)) (pc := 31) X d_M_part_31 (by decide) ?_
          refine z_icmp_lt (tgt := 37) (pc := 32) X d_M_part_32 (by decide) (fun hc => ?_) (fun hc => ?_)
          · have hw := hw.1 hc
            refine z_iconst (v := (4 : Int32)) (pc := 37) X d_M_part_37 (by decide) ?_
            refine z_iload_n (pc := 38) X 1 d_M_part_38 rfl rfl ?_
            refine z_imul (pc := 39) X d_M_part_39 ?_
            refine z_aload_n (pc := 40) X 0 d_M_part_40 rfl rfl ?_
            refine z_get (i := 0) (pc := 41) X (by decide) (cM_M _) rfl hin_M 3 (by decide) lk161 rfl rfl d_M_part_41 ?_
            refine z_iload_n (pc := 44) X 1 d_M_part_44 rfl rfl ?_
            obtain ⟨k6, hk6, ek6, hw⟩ := hw
            refine z_iald (i := 2) (pc := 45) X 0 (by decide) (cM__parts _) rfl (by decide) hk6 ek6 d_M_part_45 ?_
            refine z_iadd (pc := 46) X d_M_part_46 ?_
            refine z_istore (pc := 47) X d_M_part_47 (by decide) rfl ?_
            refine z_aload_n (pc := 49) X 1 d_M_part_49 rfl rfl ?_
            refine z_get (i := 0) (pc := 50) X (by decide) (cM_M _) rfl hin_M 4 (by decide) lk169 rfl rfl d_M_part_50 ?_
            refine z_iload (pc := 53) X 0 d_M_part_53 rfl ?_
            refine z_iload_n (pc := 55) X 3 d_M_part_55 rfl rfl ?_
            obtain ⟨k7, hk7, ek7, hw⟩ := hw
            refine z_iast (i := 3) (pc := 56) X 0 (by decide) (fun g => (cM__partChannel g)) rfl (by decide) hk7 ek7 d_M_part_56 ?_
            have hw := hw _ rfl
            refine z_aload_n (pc := 57) X 1 d_M_part_57 rfl rfl ?_
            refine z_get (i := 0) (pc := 58) X (by decide) (cM_M _) rfl hin_M 5 (by decide) lk170 rfl rfl d_M_part_58 ?_
            refine z_iload (pc := 61) X 0 d_M_part_61 rfl ?_
            refine z_iload_n (pc := 63) X 4 d_M_part_63 rfl rfl ?_
            obtain ⟨k9, hk9, ek9, hw⟩ := hw
            refine z_iast (i := 4) (pc := 64) X 0 (by decide) (fun g => (cM__partTest g)) rfl (by decide) hk9 ek9 d_M_part_64 ?_
            have hw := hw _ rfl
            refine z_aload_n (pc := 65) X 1 d_M_part_65 rfl rfl ?_
            refine z_get (i := 0) (pc := 66) X (by decide) (cM_M _) rfl hin_M 6 (by decide) lk171 rfl rfl d_M_part_66 ?_
            refine z_iload (pc := 69) X 0 d_M_part_69 rfl ?_
            refine z_iload (pc := 71) X 5 d_M_part_71 rfl ?_
            obtain ⟨k11, hk11, ek11, hw⟩ := hw
            refine z_iast (i := 5) (pc := 73) X 0 (by decide) (fun g => (cM__partNumber g)) rfl (by decide) hk11 ek11 d_M_part_73 ?_
            have hw := hw _ rfl
            refine z_aload_n (pc := 74) X 1 d_M_part_74 rfl rfl ?_
            refine z_get (i := 0) (pc := 75) X (by decide) (cM_M _) rfl hin_M 3 (by decide) lk161 rfl rfl d_M_part_75 ?_
            refine z_iload_n (pc := 78) X 2 d_M_part_78 rfl rfl ?_
            refine z_aload_n (pc := 79) X 1 d_M_part_79 rfl rfl ?_
            refine z_get (i := 0) (pc := 80) X (by decide) (cM_M _) rfl hin_M 3 (by decide) lk161 rfl rfl d_M_part_80 ?_
            refine z_iload_n (pc := 83) X 2 d_M_part_83 rfl rfl ?_
            obtain ⟨k13, hk13, ek13, hw⟩ := hw
            refine z_iald (i := 2) (pc := 84) X 0 (by decide) (cM__parts _) rfl (by decide) hk13 ek13 d_M_part_84 ?_
            refine z_iconst (v := (1 : Int32)) (pc := 85) X d_M_part_85 (by decide) ?_
            refine z_iadd (pc := 86) X d_M_part_86 ?_
            obtain ⟨k14, hk14, ek14, hw⟩ := hw
            refine z_iast (i := 2) (pc := 87) X 0 (by decide) (fun g => (cM__parts g)) rfl (by decide) hk14 ek14 d_M_part_87 ?_
            have hw := hw _ rfl
            refine z_aload_n (pc := 88) X 1 d_M_part_88 rfl rfl ?_
            refine z_get (i := 0) (pc := 89) X (by decide) (cM_M _) rfl hin_M 3 (by decide) lk161 rfl rfl d_M_part_89 ?_
            refine z_iload_n (pc := 92) X 2 d_M_part_92 rfl rfl ?_
            obtain ⟨k16, hk16, ek16, hw⟩ := hw
            refine z_iald (i := 2) (pc := 93) X 0 (by decide) (cM__parts _) rfl (by decide) hk16 ek16 d_M_part_93 ?_
            refine z_iconst (v := (1 : Int32)) (pc := 94) X d_M_part_94 (by decide) ?_
            refine z_isub (pc := 95) X d_M_part_95 ?_
            exact z_iret (pc := 96) X d_M_part_96 hw
          · have hw := hw.2 hc
            refine z_iconst (v := (-1 : Int32)) (pc := 35) X d_M_part_35 (by decide) ?_
            exact z_iret (pc := 36) X d_M_part_36 hw
theorem c_M_part {l : Launch} {D : va_G} {a : Nat → Nat} {q : Nat → ClassId} (hI : injW a 24) {h : RS} {x1 : Int32} {x2 : Int32} {x3 : Int32} {x4 : Int32} {Q : Int32 → RS → Prop} (hw : wp_M_part h x1 x2 x3 x4 Q) : Met l y_M_part [.code y_M_part b_M_part 6 (some .int)] { frames := 1, cells := 0, slots := 0, locals := 21 } (va_Pc [.ref (a 0), .int x1, .int x2, .int x3, .int x4] (PreC tbW D clM (tyM q) 24 a (ceM a q) h)) (va_Qi Q (AtC D clM 24 a (ceM a q)) (inW a 24)) 0 0 (inW a 24) :=
  m_of (by decide +kernel) hI tb_ok (Nat.le_of_ble_eq_true rfl) (fun p e R s m below meth c X => kb_M_part_0 X hw)
set_option maxHeartbeats 4000000 in
set_option maxRecDepth 100000 in
theorem kb_M_guard_0 {Q : Int32 → RS → Prop} (X : Cx p l R s m args meth c b_M_guard 4 R_M (some .boolean) D clM (tyM q) a 24 1 21 tbW) {h : RS} {x1 : Int32} {x2 : Int32} {x3 : Int32} (hw : bp_M_guard_0 Q h x1 x2 x3) : Z p l e R s m args below meth c D clM 24 a (ceM a q) 4 (MQ below (va_Qi Q (AtC D clM 24 a (ceM a q)) (inW a 24)) args s 0 0 (inW a 24)) h 0 [(0, .ref (a 0)), (1, .int x1), (2, .int x2), (3, .int x3)] [] := by
  unfold bp_M_guard_0 at hw
  refine z_aload_n (pc := 0) X 0 d_M_guard_0 rfl rfl ?_
  refine z_iload_n (pc := 1) X 1 d_M_guard_1 rfl rfl ?_
  refine z_cVi (i := 0) (pc := 2) X [.int _] (c_M_open X.2.2.2.2.2.2.2.2.1 hw) (by decide) (by decide) lk162 cd_M_open lk163 lk164 lk165 (by decide) (cM_M _) rfl nm_M_open rfl rfl (Nat.le_of_ble_eq_true rfl) d_M_guard_2 (fun r1 h2 hw => ?_)
  refine z_if_eq (tgt := 17) (pc := 5) X d_M_guard_5 (by decide) (fun hc => ?_) (fun hc => ?_)
  · have hw := hw.1 hc
    refine z_iconst (v := (0 : Int32)) (pc := 17) X d_M_guard_17 (by decide) ?_
    exact z_zret (pc := 18) X hw.1 d_M_guard_18 hw.2
  · have hw := hw.2 hc
    refine z_iload_n (pc := 8) X 2 d_M_guard_8 rfl rfl ?_
    refine z_if_lt (tgt := 17) (pc := 9) X d_M_guard_9 (by decide) (fun hc => ?_) (fun hc => ?_)
    · have hw := hw.1 hc
      refine z_iconst (v := (0 : Int32)) (pc := 17) X d_M_guard_17 (by decide) ?_
      exact z_zret (pc := 18) X hw.1 d_M_guard_18 hw.2
    · have hw := hw.2 hc
      refine z_iload_n (pc := 12) X 2 d_M_guard_12 rfl rfl ?_
      refine z_iconst (v := (5 : Int32)) (pc := 13) X d_M_guard_13 (by decide) ?_
      refine z_icmp_le (tgt := 19) (pc := 14) X d_M_guard_14 (by decide) (fun hc => ?_) (fun hc => ?_)
      · have hw := hw.1 hc
        refine z_aload_n (pc := 19) X 0 d_M_guard_19 rfl rfl ?_
        refine z_get (i := 0) (pc := 20) X (by decide) (cM_M _) rfl hin_M 7 (by decide) lk172 rfl rfl d_M_guard_20 ?_
        refine z_iload_n (pc := 23) X 1 d_M_guard_23 rfl rfl ?_
        refine z_iload_n (pc := 24) X 2 d_M_guard_24 rfl rfl ?_
        obtain ⟨k3, hk3, ek3, hw⟩ := hw
        refine z_iast (i := 6) (pc := 25) X 0 (by decide) (fun g => (cM__guardKind g)) rfl (by decide) hk3 ek3 d_M_guard_25 ?_
        have hw := hw _ rfl
        refine z_aload_n (pc := 26) X 0 d_M_guard_26 rfl rfl ?_
        refine z_get (i := 0) (pc := 27) X (by decide) (cM_M _) rfl hin_M 8 (by decide) lk173 rfl rfl d_M_guard_27 ?_
        refine z_iload_n (pc := 30) X 1 d_M_guard_30 rfl rfl ?_
        refine z_iload_n (pc := 31) X 3 d_M_guard_31 rfl rfl ?_
        obtain ⟨k5, hk5, ek5, hw⟩ := hw
        refine z_iast (i := 7) (pc := 32) X 0 (by decide) (fun g => (cM__guardNumber g)) rfl (by decide) hk5 ek5 d_M_guard_32 ?_
        have hw := hw _ rfl
        refine z_iconst (v := (1 : Int32)) (pc := 33) X d_M_guard_33 (by decide) ?_
        exact z_zret (pc := 34) X hw.1 d_M_guard_34 hw.2
      · have hw := hw.2 hc
        refine z_iconst (v := (0 : Int32)) (pc := 17) X d_M_guard_17 (by decide) ?_
        exact z_zret (pc := 18) X hw.1 d_M_guard_18 hw.2
theorem c_M_guard {l : Launch} {D : va_G} {a : Nat → Nat} {q : Nat → ClassId} (hI : injW a 24) {h : RS} {x1 : Int32} {x2 : Int32} {x3 : Int32} {Q : Int32 → RS → Prop} (hw : wp_M_guard h x1 x2 x3 Q) : Met l y_M_guard [.code y_M_guard b_M_guard 4 (some .boolean)] { frames := 1, cells := 0, slots := 0, locals := 21 } (va_Pc [.ref (a 0), .int x1, .int x2, .int x3] (PreC tbW D clM (tyM q) 24 a (ceM a q) h)) (va_Qi Q (AtC D clM 24 a (ceM a q)) (inW a 24)) 0 0 (inW a 24) :=
  m_of (by decide +kernel) hI tb_ok (Nat.le_of_ble_eq_true rfl) (fun p e R s m below meth c X => kb_M_guard_0 X hw)
set_option maxHeartbeats 4000000 in
set_option maxRecDepth 100000 in
theorem kb_M_expression_19 {Q : Int32 → RS → Prop} (X : Cx p l R s m args meth c b_M_expression 4 R_M (some .boolean) D clM (tyM q) a 24 1 22 tbW) {h : RS} {x1 : Int32} {x3 : Int32} (hw : bp_M_expression_19 Q h x1 x3) : Z p l e R s m args below meth c D clM 24 a (ceM a q) 4 (MQ below (va_Qi Q (AtC D clM 24 a (ceM a q)) (inW a 24)) args s 0 0 (inW a 24)) h 19 [(0, .ref (a 0)), (1, .int x1), (3, .int x3)] [] := by
  unfold bp_M_expression_19 at hw
  refine z_aload_n (pc := 19) X 0 d_M_expression_19 rfl rfl ?_
  refine z_iload_n (pc := 20) X 1 d_M_expression_20 rfl rfl ?_
  refine z_iload_n (pc := 21) X 2 d_M_expression_21 rfl rfl ?_
  refine z_cVi (i := 0) (pc := 22) X [.int _, .int _] (c_M_hasPart X.2.2.2.2.2.2.2.2.1 hw) (by decide) (by decide) lk174 cd_M_hasPart lk163 lk175 lk176 (by decide) (cM_M _) rfl nm_M_hasPart rfl rfl (Nat.le_of_ble_eq_true rfl) d_M_expression_22 (fun r1 h2 hw => ?_)
  refine z_if_eq (tgt := 32) (pc := 25) X d_M_expression_25 (by decide) (fun hc => ?_) (fun hc => ?_)
  · have hw := hw.1 hc
    refine z_iconst (v := (0 : Int32)) (pc := 32) X d_M_expression_32 (by decide) ?_
    exact z_zret (pc := 33) X hw.1 d_M_expression_33 hw.2
  · have hw := hw.2 hc
    refine z_iconst (v := (1 : Int32)) (pc := 28) X d_M_expression_28 (by decide) ?_
    refine z_goto (tgt := 33) (pc := 29) X d_M_expression_29 (by decide) ?_
    exact z_zret (pc := 33) X hw.1 d_M_expression_33 hw.2
set_option maxHeartbeats 4000000 in
set_option maxRecDepth 100000 in
theorem kb_M_expression_0 {Q : Int32 → RS → Prop} (X : Cx p l R s m args meth c b_M_expression 4 R_M (some .boolean) D clM (tyM q) a 24 1 22 tbW) {h : RS} {x1 : Int32} {x2 : Int32} {x3 : Int32} (hw : bp_M_expression_0 Q h x1 x2 x3) : Z p l e R s m args below meth c D clM 24 a (ceM a q) 4 (MQ below (va_Qi Q (AtC D clM 24 a (ceM a q)) (inW a 24)) args s 0 0 (inW a 24)) h 0 [(0, .ref (a 0)), (1, .int x1), (2, .int x2), (3, .int x3)] [] := by
  unfold bp_M_expression_0 at hw
  refine z_iload_n (pc := 0) X 2 d_M_expression_0 rfl rfl ?_
  refine z_if_lt (tgt := 32) (pc := 1) X d_M_expression_1 (by decide) (fun hc => ?_) (fun hc => ?_)
  · have hw := hw.1 hc
    refine z_iconst (v := (0 : Int32)) (pc := 32) X d_M_expression_32 (by decide) ?_
    exact z_zret (pc := 33) X hw.1 d_M_expression_33 hw.2
  · have hw := hw.2 hc
    refine z_iload_n (pc := 4) X 2 d_M_expression_4 rfl rfl ?_
    refine z_iconst (v := (4 : Int32)) (pc := 5) X d_M_expression_5 (by decide) ?_
    refine z_icmp_gt (tgt := 32) (pc := 6) X d_M_expression_6 (by decide) (fun hc => ?_) (fun hc => ?_)
    · have hw := hw.1 hc
      refine z_iconst (v := (0 : Int32)) (pc := 32) X d_M_expression_32 (by decide) ?_
      exact z_zret (pc := 33) X hw.1 d_M_expression_33 hw.2
    · have hw := hw.2 hc
      refine z_iload_n (pc := 9) X 2 d_M_expression_9 rfl rfl ?_
      refine z_iconst (v := (1 : Int32)) (pc := 10) X d_M_expression_10 (by decide) ?_
      refine z_icmp_eq (tgt := 19) (pc := 11) X d_M_expression_11 (by decide) (fun hc => ?_) (fun hc => ?_)
      · have hw := hw.1 hc
        exact z_to [0, 1, 3] rfl (kb_M_expression_19 X hw)
      · have hw := hw.2 hc
        refine z_iload_n (pc := 14) X 2 d_M_expression_14 rfl rfl ?_
        refine z_iconst (v := (2 : Int32)) (pc := 15) X d_M_expression_15 (by decide) ?_
        refine z_icmp_ne (tgt := 28) (pc := 16) X d_M_expression_16 (by decide) (fun hc => ?_) (fun hc => ?_)
        · have hw := hw.1 hc
          refine z_iconst (v := (1 : Int32)) (pc := 28) X d_M_expression_28 (by decide) ?_
          refine z_goto (tgt := 33) (pc := 29) X d_M_expression_29 (by decide) ?_
          exact z_zret (pc := 33) X hw.1 d_M_expression_33 hw.2
        · have hw := hw.2 hc
          exact z_to [0, 1, 3] rfl (kb_M_expression_19 X hw)
theorem c_M_expression {l : Launch} {D : va_G} {a : Nat → Nat} {q : Nat → ClassId} (hI : injW a 24) {h : RS} {x1 : Int32} {x2 : Int32} {x3 : Int32} {Q : Int32 → RS → Prop} (hw : wp_M_expression h x1 x2 x3 Q) : Met l y_M_expression [.code y_M_expression b_M_expression 4 (some .boolean)] { frames := 1, cells := 0, slots := 0, locals := 22 } (va_Pc [.ref (a 0), .int x1, .int x2, .int x3] (PreC tbW D clM (tyM q) 24 a (ceM a q) h)) (va_Qi Q (AtC D clM 24 a (ceM a q)) (inW a 24)) 0 0 (inW a 24) :=
  m_of (by decide +kernel) hI tb_ok (Nat.le_of_ble_eq_true rfl) (fun p e R s m below meth c X => kb_M_expression_0 X hw)
set_option maxHeartbeats 4000000 in
set_option maxRecDepth 100000 in
theorem kb_M_act_0 {Q : RS → Prop} (X : Cx p l R s m args meth c b_M_act 7 R_M none D clM (tyM q) a 24 0 0 tbW) {h : RS} {x1 : Int32} {x2 : Int32} {x3 : Int32} {x4 : Int32} {x5 : Int32} (hw : bp_M_act_0 Q h x1 x2 x3 x4 x5) : Z p l e R s m args below meth c D clM 24 a (ceM a q) 7 (MQ below (va_Qv Q (AtC D clM 24 a (ceM a q)) (inW a 24)) args s 0 0 (inW a 24)) h 0 [(0, .ref (a 0)), (1, .int x1), (2, .int x2), (3, .int x3), (4, .int x4), (5, .int x5)] [] := by
  unfold bp_M_act_0 at hw
  refine z_iconst (v := (4 : Int32)) (pc := 0) X d_M_act_0 (by decide) ?_
  refine z_iload_n (pc := 1) X 1 d_M_act_1 rfl rfl ?_
  refine z_imul (pc := 2) X d_M_act_2 ?_
  refine z_aload_n (pc := 3) X 0 d_M_act_3 rfl rfl ?_
  refine z_get (i := 0) (pc := 4) X (by decide) (cM_M _) rfl hin_M 9 (by decide) lk177 rfl rfl d_M_act_4 ?_
  refine z_iload_n (pc := 7) X 1 d_M_act_7 rfl rfl ?_
  obtain ⟨k1, hk1, ek1, hw⟩ := hw
  refine z_iald (i := 8) (pc := 8) X 0 (by decide) (cM__actions _) rfl (by decide) hk1 ek1 d_M_act_8 ?_
  refine z_iadd (pc := 9) X d_M_act_9 ?_
  refine z_istore (pc := 10) X d_M_act_10 (by decide) rfl ?_
  refine z_aload_n (pc := 12) X 1 d_M_act_12 rfl rfl ?_
  refine z_get (i := 0) (pc := 13) X (by decide) (cM_M _) rfl hin_M 10 (by decide) lk178 rfl rfl d_M_act_13 ?_
  refine z_iload (pc := 16) X 0 d_M_act_16 rfl ?_
  refine z_iload_n (pc := 18) X 3 d_M_act_18 rfl rfl ?_
  obtain ⟨k2, hk2, ek2, hw⟩ := hw
  refine z_iast (i := 9) (pc := 19) X 0 (by decide) (fun g => (cM__target g)) rfl (by decide) hk2 ek2 d_M_act_19 ?_
  have hw := hw _ rfl
  refine z_aload_n (pc := 20) X 1 d_M_act_20 rfl rfl ?_
  refine z_get (i := 0) (pc := 21) X (by decide) (cM_M _) rfl hin_M 11 (by decide) lk179 rfl rfl d_M_act_21 ?_
  refine z_iload (pc := 24) X 0 d_M_act_24 rfl ?_
  refine z_iload_n (pc := 26) X 4 d_M_act_26 rfl rfl ?_
  obtain ⟨k4, hk4, ek4, hw⟩ := hw
  refine z_iast (i := 10) (pc := 27) X 0 (by decide) (fun g => (cM__replied g)) rfl (by decide) hk4 ek4 d_M_act_27 ?_
  have hw := hw _ rfl
  refine z_aload_n (pc := 28) X 1 d_M_act_28 rfl rfl ?_
  refine z_get (i := 0) (pc := 29) X (by decide) (cM_M _) rfl hin_M 12 (by decide) lk180 rfl rfl d_M_act_29 ?_
  refine z_iload (pc := 32) X 0 d_M_act_32 rfl ?_
  refine z_iload (pc := 34) X 5 d_M_act_34 rfl ?_
  obtain ⟨k6, hk6, ek6, hw⟩ := hw
  refine z_iast (i := 11) (pc := 36) X 0 (by decide) (fun g => (cM__kind g)) rfl (by decide) hk6 ek6 d_M_act_36 ?_
  have hw := hw _ rfl
  refine z_aload_n (pc := 37) X 1 d_M_act_37 rfl rfl ?_
  refine z_get (i := 0) (pc := 38) X (by decide) (cM_M _) rfl hin_M 13 (by decide) lk181 rfl rfl d_M_act_38 ?_
  refine z_iload (pc := 41) X 0 d_M_act_41 rfl ?_
  refine z_iload (pc := 43) X 6 d_M_act_43 rfl ?_
  obtain ⟨k8, hk8, ek8, hw⟩ := hw
  refine z_iast (i := 12) (pc := 45) X 0 (by decide) (fun g => (cM__which g)) rfl (by decide) hk8 ek8 d_M_act_45 ?_
  have hw := hw _ rfl
  refine z_aload_n (pc := 46) X 1 d_M_act_46 rfl rfl ?_
  refine z_get (i := 0) (pc := 47) X (by decide) (cM_M _) rfl hin_M 9 (by decide) lk177 rfl rfl d_M_act_47 ?_
  refine z_iload_n (pc := 50) X 2 d_M_act_50 rfl rfl ?_
  refine z_aload_n (pc := 51) X 1 d_M_act_51 rfl rfl ?_
  refine z_get (i := 0) (pc := 52) X (by decide) (cM_M _) rfl hin_M 9 (by decide) lk177 rfl rfl d_M_act_52 ?_
  refine z_iload_n (pc := 55) X 2 d_M_act_55 rfl rfl ?_
  obtain ⟨k10, hk10, ek10, hw⟩ := hw
  refine z_iald (i := 8) (pc := 56) X 0 (by decide) (cM__actions _) rfl (by decide) hk10 ek10 d_M_act_56 ?_
  refine z_iconst (v := (1 : Int32)) (pc := 57) X d_M_act_57 (by decide) ?_
  refine z_iadd (pc := 58) X d_M_act_58 ?_
  obtain ⟨k11, hk11, ek11, hw⟩ := hw
  refine z_iast (i := 8) (pc := 59) X 0 (by decide) (fun g => (cM__actions g)) rfl (by decide) hk11 ek11 d_M_act_59 ?_
  have hw := hw _ rfl
  exact z_vret (pc := 60) X d_M_act_60 hw
theorem c_M_act {l : Launch} {D : va_G} {a : Nat → Nat} {q : Nat → ClassId} (hI : injW a 24) {h : RS} {x1 : Int32} {x2 : Int32} {x3 : Int32} {x4 : Int32} {x5 : Int32} {Q : RS → Prop} (hw : wp_M_act h x1 x2 x3 x4 x5 Q) : Met l y_M_act [.code y_M_act b_M_act 7 none] { frames := 0, cells := 0, slots := 0, locals := 0 } (va_Pc [.ref (a 0), .int x1, .int x2, .int x3, .int x4, .int x5] (PreC tbW D clM (tyM q) 24 a (ceM a q) h)) (va_Qv Q (AtC D clM 24 a (ceM a q)) (inW a 24)) 0 0 (inW a 24) :=
  m_of (by decide +kernel) hI tb_ok (Nat.le_of_ble_eq_true rfl) (fun p e R s m below meth c X => kb_M_act_0 X hw)
set_option maxHeartbeats 4000000 in
set_option maxRecDepth 100000 in
theorem kb_M_emit_0 {Q : Int32 → RS → Prop} (X : Cx p l R s m args meth c b_M_emit 6 R_M (some .boolean) D clM (tyM q) a 24 2 45 tbW) {h : RS} {x1 : Int32} {x2 : Int32} {x3 : Int32} {x4 : Int32} {x5 : Int32} (hw : bp_M_emit_0 Q h x1 x2 x3 x4 x5) : Z p l e R s m args below meth c D clM 24 a (ceM a q) 6 (MQ below (va_Qi Q (AtC D clM 24 a (ceM a q)) (inW a 24)) args s 0 0 (inW a 24)) h 0 [(0, .ref (a 0)), (1, .int x1), (2, .int x2), (3, .int x3), (4, .int x4), (5, .int x5)] [] := by
  unfold bp_M_emit_0 at hw
  refine z_aload_n (pc := 0) X 0 d_M_emit_0 rfl rfl ?_
  refine z_iload_n (pc := 1) X 1 d_M_emit_1 rfl rfl ?_
  refine z_cVi (i := 0) (pc := 2) X [.int _] (c_M_open X.2.2.2.2.2.2.2.2.1 hw) (by decide) (by decide) lk162 cd_M_open lk163 lk164 lk165 (by decide) (cM_M _) rfl nm_M_open rfl rfl (Nat.le_of_ble_eq_true rfl) d_M_emit_2 (fun r1 h2 hw => ?_)
  refine z_if_eq (tgt := 46) (pc := 5) X d_M_emit_5 (by decide) (fun hc => ?_) (fun hc => ?_)
  · have hw := hw.1 hc
    refine z_iconst (v := (0 : Int32)) (pc := 46) X d_M_emit_46 (by decide) ?_
    exact z_zret (pc := 47) X hw.1 d_M_emit_47 hw.2
  · have hw := hw.2 hc
    refine z_aload_n (pc := 8) X 0 d_M_emit_8 rfl rfl ?_
    refine z_iload_n (pc := 9) X 2 d_M_emit_9 rfl rfl ?_
    refine z_cVi (i := 0) (pc := 10) X [.int _] (c_M_isChannel X.2.2.2.2.2.2.2.2.1 hw) (by decide) (by decide) lk166 cd_M_isChannel lk163 lk167 lk168 (by decide) (cM_M _) rfl nm_M_isChannel rfl rfl (Nat.le_of_ble_eq_true rfl) d_M_emit_10 (fun r3 h4 hw => ?_)
    refine z_if_eq (tgt := 46) (pc := 13) X d_M_emit_13 (by decide) (fun hc => ?_) (fun hc => ?_)
    · have hw := hw.1 hc
      refine z_iconst (v := (0 : Int32)) (pc := 46) X d_M_emit_46 (by decide) ?_
      exact z_zret (pc := 47) X hw.1 d_M_emit_47 hw.2
    · have hw := hw.2 hc
      refine z_aload_n (pc := 16) X 0 d_M_emit_16 rfl rfl ?_
      refine z_get (i := 0) (pc := 17) X (by decide) (cM_M _) rfl hin_M 1 (by decide) lk159 rfl rfl d_M_emit_17 ?_
      refine z_iload_n (pc := 20) X 2 d_M_emit_20 rfl rfl ?_
      obtain ⟨k5, hk5, ek5, hw⟩ := hw
      refine z_zald (i := 1) (pc := 21) X 1 (by decide) (cM__answered _) rfl (by decide) hk5 ek5 d_M_emit_21 ?_
      refine z_if_ne (tgt := 46) (pc := 22) X d_M_emit_22 (by decide) (fun hc => ?_) (fun hc => ?_)
      · have hw := hw.1 hc
        refine z_iconst (v := (0 : Int32)) (pc := 46) X d_M_emit_46 (by decide) ?_
        exact z_zret (pc := 47) X hw.1 d_M_emit_47 hw.2
      · have hw := hw.2 hc
        refine z_aload_n (pc := 25) X 0 d_M_emit_25 rfl rfl ?_
        refine z_iload_n (pc := 26) X 1 d_M_emit_26 rfl rfl ?_
        refine z_iload_n (pc := 27) X 3 d_M_emit_27 rfl rfl ?_
        refine z_iload (pc := 28) X 4 d_M_emit_28 rfl ?_
        refine z_cVi (i := 0) (pc := 30) X [.int _, .int _, .int _] (c_M_expression X.2.2.2.2.2.2.2.2.1 hw) (by decide) (by decide) lk182 cd_M_expression lk163 lk183 lk184 (by decide) (cM_M _) rfl nm_M_expression rfl rfl (Nat.le_of_ble_eq_true rfl) d_M_emit_30 (fun r6 h7 hw => ?_)
        refine z_if_eq (tgt := 46) (pc := 33) X d_M_emit_33 (by decide) (fun hc => ?_) (fun hc => ?_)
        · have hw := hw.1 hc
          refine z_iconst (v := (0 : Int32)) (pc := 46) X d_M_emit_46 (by decide) ?_
          exact z_zret (pc := 47) X hw.1 d_M_emit_47 hw.2
        · have hw := hw.2 hc
          refine z_aload_n (pc := 36) X 0 d_M_emit_36 rfl rfl ?_
          refine z_get (i := 0) (pc := 37) X (by decide) (cM_M _) rfl hin_M 9 (by decide) lk177 rfl rfl d_M_emit_37 ?_
          refine z_iload_n (pc := 40) X 1 d_M_emit_40 rfl rfl ?_
          obtain ⟨k8, hk8, ek8, hw⟩ := hw
          refine z_iald (i := 8) (pc := 41) X 0 (by decide) (cM__actions _) rfl (by decide) hk8 ek8 d_M_emit_41 ?_
          refine z_iconst (v := (4 : Int32)) (pc := 42) X d_M_emit_42 (by decide) ?_
          refine z_icmp_lt (tgt := 48) (pc := 43) X d_M_emit_43 (by decide) (fun hc => ?_) (fun hc => ?_)
          · have hw := hw.1 hc
            refine z_aload_n (pc := 48) X 0 d_M_emit_48 rfl rfl ?_
            refine z_get (i := 0) (pc := 49) X (by decide) (cM_M _) rfl hin_M 14 (by decide) lk185 rfl rfl d_M_emit_49 ?_
            refine z_iconst (v := (4 : Int32)) (pc := 52) X d_M_emit_52 (by decide) ?_
            refine z_iload_n (pc := 53) X 1 d_M_emit_53 rfl rfl ?_
            refine z_imul (pc := 54) X d_M_emit_54 ?_
            refine z_aload_n (pc := 55) X 0 d_M_emit_55 rfl rfl ?_
            refine z_get (i := 0) (pc := 56) X (by decide) (cM_M _) rfl hin_M 9 (by decide) lk177 rfl rfl d_M_emit_56 ?_
            refine z_iload_n (pc := 59) X 1 d_M_emit_59 rfl rfl ?_
            obtain ⟨k9, hk9, ek9, hw⟩ := hw
            refine z_iald (i := 8) (pc := 60) X 0 (by decide) (cM__actions _) rfl (by decide) hk9 ek9 d_M_emit_60 ?_
            refine z_iadd (pc := 61) X d_M_emit_61 ?_
            refine z_iload (pc := 62) X 5 d_M_emit_62 rfl ?_
            obtain ⟨k10, hk10, ek10, hw⟩ := hw
            refine z_iast (i := 13) (pc := 64) X 0 (by decide) (fun g => (cM__number g)) rfl (by decide) hk10 ek10 d_M_emit_64 ?_
            have hw := hw _ rfl
            refine z_aload_n (pc := 65) X 0 d_M_emit_65 rfl rfl ?_
            refine z_iload_n (pc := 66) X 1 d_M_emit_66 rfl rfl ?_
            refine z_iload_n (pc := 67) X 2 d_M_emit_67 rfl rfl ?_
            refine z_iconst (v := (-1 : Int32)) (pc := 68) X d_M_emit_68 (by decide) ?_
            refine z_iload_n (pc := 69) X 3 d_M_emit_69 rfl rfl ?_
            refine z_iload (pc := 70) X 4 d_M_emit_70 rfl ?_
            refine z_cVv (i := 0) (pc := 72) X [.int _, .int _, .int _, .int _, .int _] (c_M_act X.2.2.2.2.2.2.2.2.1 hw) (by decide) (by decide) lk186 cd_M_act lk163 lk187 lk188 (by decide) (cM_M _) rfl nm_M_act rfl rfl (Nat.le_of_ble_eq_true rfl) d_M_emit_72 (fun h12 hw => ?_)
            refine z_iconst (v := (1 : Int32)) (pc := 75) X d_M_emit_75 (by decide) ?_
            exact z_zret (pc := 76) X hw.1 d_M_emit_76 hw.2
          · have hw := hw.2 hc
            refine z_iconst (v := (0 : Int32)) (pc := 46) X d_M_emit_46 (by decide) ?_
            exact z_zret (pc := 47) X hw.1 d_M_emit_47 hw.2
theorem c_M_emit {l : Launch} {D : va_G} {a : Nat → Nat} {q : Nat → ClassId} (hI : injW a 24) {h : RS} {x1 : Int32} {x2 : Int32} {x3 : Int32} {x4 : Int32} {x5 : Int32} {Q : Int32 → RS → Prop} (hw : wp_M_emit h x1 x2 x3 x4 x5 Q) : Met l y_M_emit [.code y_M_emit b_M_emit 6 (some .boolean)] { frames := 2, cells := 0, slots := 0, locals := 45 } (va_Pc [.ref (a 0), .int x1, .int x2, .int x3, .int x4, .int x5] (PreC tbW D clM (tyM q) 24 a (ceM a q) h)) (va_Qi Q (AtC D clM 24 a (ceM a q)) (inW a 24)) 0 0 (inW a 24) :=
  m_of (by decide +kernel) hI tb_ok (Nat.le_of_ble_eq_true rfl) (fun p e R s m below meth c X => kb_M_emit_0 X hw)
set_option maxHeartbeats 4000000 in
set_option maxRecDepth 100000 in
theorem kb_M_answersPart_53 {Q : Int32 → RS → Prop} (X : Cx p l R s m args meth c b_M_answersPart 5 R_M (some .boolean) D clM (tyM q) a 24 0 0 tbW) {K5 : RS → Int32 → Int32 → Int32 → Int32 → Prop} (hK5 : ∀ (h : RS) (x1 : Int32) (x2 : Int32) (x3 : Int32) (x4 : Int32), K5 h x1 x2 x3 x4 → Z p l e R s m args below meth c D clM 24 a (ceM a q) 5 (MQ below (va_Qi Q (AtC D clM 24 a (ceM a q)) (inW a 24)) args s 0 0 (inW a 24)) h 5 [(0, .ref (a 0)), (1, .int x1), (2, .int x2), (3, .int x3), (4, .int x4)] []) {h : RS} {x1 : Int32} {x2 : Int32} {x4 : Int32} (hw : bp_M_answersPart_53 K5 Q h x1 x2 x4) : Z p l e R s m args below meth c D clM 24 a (ceM a q) 5 (MQ below (va_Qi Q (AtC D clM 24 a (ceM a q)) (inW a 24)) args s 0 0 (inW a 24)) h 53 [(0, .ref (a 0)), (1, .int x1), (2, .int x2), (4, .int x4)] [] := by
  unfold bp_M_answersPart_53 at hw
  refine z_iconst (v := (0 : Int32)) (pc := 53) X d_M_answersPart_53 (by decide) ?_
  refine z_istore_n (pc := 54) X d_M_answersPart_54 rfl (by decide) rfl ?_
  refine z_iinc (v := (x4 + 1)) (pc := 55) X 4 d_M_answersPart_55 rfl rfl (by decide) rfl ?_
  refine z_goto (tgt := 5) (pc := 58) X d_M_answersPart_58 (by decide) ?_
  exact z_to [2, 3, 4, 1, 0] rfl (hK5 _ _ _ _ _ hw)
set_option maxHeartbeats 4000000 in
set_option maxRecDepth 100000 in
theorem kb_M_answersPart_49 {Q : Int32 → RS → Prop} (X : Cx p l R s m args meth c b_M_answersPart 5 R_M (some .boolean) D clM (tyM q) a 24 0 0 tbW) {K5 : RS → Int32 → Int32 → Int32 → Int32 → Prop} (hK5 : ∀ (h : RS) (x1 : Int32) (x2 : Int32) (x3 : Int32) (x4 : Int32), K5 h x1 x2 x3 x4 → Z p l e R s m args below meth c D clM 24 a (ceM a q) 5 (MQ below (va_Qi Q (AtC D clM 24 a (ceM a q)) (inW a 24)) args s 0 0 (inW a 24)) h 5 [(0, .ref (a 0)), (1, .int x1), (2, .int x2), (3, .int x3), (4, .int x4)] []) {h : RS} {x1 : Int32} {x2 : Int32} {x4 : Int32} (hw : bp_M_answersPart_49 K5 Q h x1 x2 x4) : Z p l e R s m args below meth c D clM 24 a (ceM a q) 5 (MQ below (va_Qi Q (AtC D clM 24 a (ceM a q)) (inW a 24)) args s 0 0 (inW a 24)) h 49 [(0, .ref (a 0)), (1, .int x1), (2, .int x2), (4, .int x4)] [] := by
  unfold bp_M_answersPart_49 at hw
  refine z_iconst (v := (1 : Int32)) (pc := 49) X d_M_answersPart_49 (by decide) ?_
  refine z_goto (tgt := 54) (pc := 50) X d_M_answersPart_50 (by decide) ?_
  refine z_istore_n (pc := 54) X d_M_answersPart_54 rfl (by decide) rfl ?_
  refine z_iinc (v := (x4 + 1)) (pc := 55) X 4 d_M_answersPart_55 rfl rfl (by decide) rfl ?_
  refine z_goto (tgt := 5) (pc := 58) X d_M_answersPart_58 (by decide) ?_
  exact z_to [2, 3, 4, 1, 0] rfl (hK5 _ _ _ _ _ hw)
set_option maxHeartbeats 4000000 in
set_option maxRecDepth 100000 in
theorem kb_M_answersPart_5 {Q : Int32 → RS → Prop} (X : Cx p l R s m args meth c b_M_answersPart 5 R_M (some .boolean) D clM (tyM q) a 24 0 0 tbW) {K5 : RS → Int32 → Int32 → Int32 → Int32 → Prop} (hK5 : ∀ (h : RS) (x1 : Int32) (x2 : Int32) (x3 : Int32) (x4 : Int32), K5 h x1 x2 x3 x4 → Z p l e R s m args below meth c D clM 24 a (ceM a q) 5 (MQ below (va_Qi Q (AtC D clM 24 a (ceM a q)) (inW a 24)) args s 0 0 (inW a 24)) h 5 [(0, .ref (a 0)), (1, .int x1), (2, .int x2), (3, .int x3), (4, .int x4)] []) {h : RS} {x1 : Int32} {x2 : Int32} {x3 : Int32} {x4 : Int32} (hw : bp_M_answersPart_5 K5 Q h x1 x2 x3 x4) : Z p l e R s m args below meth c D clM 24 a (ceM a q) 5 (MQ below (va_Qi Q (AtC D clM 24 a (ceM a q)) (inW a 24)) args s 0 0 (inW a 24)) h 5 [(0, .ref (a 0)), (1, .int x1), (2, .int x2), (3, .int x3), (4, .int x4)] [] := by
  unfold bp_M_answersPart_5 at hw
  refine z_iload (pc := 5) X 4 d_M_answersPart_5 rfl ?_
  refine z_aload_n (pc := 7) X 0 d_M_answersPart_7 rfl rfl ?_
  refine z_get (i := 0) (pc := 8) X (by decide) (cM_M _) rfl hin_M 9 (by decide) lk177 rfl rfl d_M_answersPart_8 ?_
  refine z_iload_n (pc := 11) X 1 d_M_answersPart_11 rfl rfl ?_
  obtain ⟨k1, hk1, ek1, hw⟩ := hw
  refine z_iald (i := 8) (pc := 12) X 0 (by decide) (cM__actions _) rfl (by decide) hk1 ek1 d_M_answersPart_12 ?_
  refine z_icmp_ge (tgt := 61) (pc := 13) X d_M_answersPart_13 (by decide) (fun hc => ?_) (fun hc => ?_)
  · have hw := hw.1 hc
    refine z_iload_n (pc := 61) X 3 d_M_answersPart_61 rfl rfl ?_
    exact z_zret (pc := 62) X hw.1 d_M_answersPart_62 hw.2
  · have hw := hw.2 hc
    refine z_iload_n (pc := 16) X 3 d_M_answersPart_16 rfl rfl ?_
    refine z_if_ne (tgt := 49) (pc := 17) X d_M_answersPart_17 (by decide) (fun hc => ?_) (fun hc => ?_)
    · have hw := hw.1 hc
      exact z_to [0, 1, 2, 4] rfl (kb_M_answersPart_49 X hK5 hw)
    · have hw := hw.2 hc
      refine z_aload_n (pc := 20) X 0 d_M_answersPart_20 rfl rfl ?_
      refine z_get (i := 0) (pc := 21) X (by decide) (cM_M _) rfl hin_M 10 (by decide) lk178 rfl rfl d_M_answersPart_21 ?_
      refine z_iconst (v := (4 : Int32)) (pc := 24) X d_M_answersPart_24 (by decide) ?_
      refine z_iload_n (pc := 25) X 1 d_M_answersPart_25 rfl rfl ?_
      refine z_imul (pc := 26) X d_M_answersPart_26 ?_
      refine z_iload (pc := 27) X 4 d_M_answersPart_27 rfl ?_
      refine z_iadd (pc := 29) X d_M_answersPart_29 ?_
      obtain ⟨k2, hk2, ek2, hw⟩ := hw
      refine z_iald (i := 9) (pc := 30) X 0 (by decide) (cM__target _) rfl (by decide) hk2 ek2 d_M_answersPart_30 ?_
      refine z_if_ge (tgt := 53) (pc := 31) X d_M_answersPart_31 (by decide) (fun hc => ?_) (fun hc => ?_)
      · have hw := hw.1 hc
        exact z_to [0, 1, 2, 4] rfl (kb_M_answersPart_53 X hK5 hw)
      · have hw := hw.2 hc
        refine z_aload_n (pc := 34) X 0 d_M_answersPart_34 rfl rfl ?_
        refine z_get (i := 0) (pc := 35) X (by decide) (cM_M _) rfl hin_M 11 (by decide) lk179 rfl rfl d_M_answersPart_35 ?_
        refine z_iconst (v := (4 : Int32)) (pc := 38) X d_M_answersPart_38 (by decide) ?_
        refine z_iload_n (pc := 39) X 1 d_M_answersPart_39 rfl rfl ?_
        refine z_imul (pc := 40) X d_M_answersPart_40 ?_
        refine z_iload (pc := 41) X 4 d_M_answersPart_41 rfl ?_
        refine z_iadd (pc := 43) X d_M_answersPart_43 ?_
        obtain ⟨k3, hk3, ek3, hw⟩ := hw
        refine z_iald (i := 10) (pc := 44) X 0 (by decide) (cM__replied _) rfl (by decide) hk3 ek3 d_M_answersPart_44 ?_
        refine z_iload_n (pc := 45) X 2 d_M_answersPart_45 rfl rfl ?_
        refine z_icmp_ne (tgt := 53) (pc := 46) X d_M_answersPart_46 (by decide) (fun hc => ?_) (fun hc => ?_)
        · have hw := hw.1 hc
          exact z_to [0, 1, 2, 4] rfl (kb_M_answersPart_53 X hK5 hw)
        · have hw := hw.2 hc
          exact z_to [0, 1, 2, 4] rfl (kb_M_answersPart_49 X hK5 hw)
theorem kl_M_answersPart_5 {Q : Int32 → RS → Prop} (X : Cx p l R s m args meth c b_M_answersPart 5 R_M (some .boolean) D clM (tyM q) a 24 0 0 tbW) : ∀ (n : Nat) (h : RS) (x1 : Int32) (x2 : Int32) (x3 : Int32) (x4 : Int32), wp_M_answersPart_5 Q n h x1 x2 x3 x4 → Z p l e R s m args below meth c D clM 24 a (ceM a q) 5 (MQ below (va_Qi Q (AtC D clM 24 a (ceM a q)) (inW a 24)) args s 0 0 (inW a 24)) h 5 [(0, .ref (a 0)), (1, .int x1), (2, .int x2), (3, .int x3), (4, .int x4)] [] := by
  intro n
  induction n with
  | zero =>
    intro h x1 x2 x3 x4 hw
    exact hw.elim
  | succ n ih =>
    intro h x1 x2 x3 x4 hw
    exact kb_M_answersPart_5 X ih hw
set_option maxHeartbeats 4000000 in
set_option maxRecDepth 100000 in
theorem kb_M_answersPart_0 {Q : Int32 → RS → Prop} (X : Cx p l R s m args meth c b_M_answersPart 5 R_M (some .boolean) D clM (tyM q) a 24 0 0 tbW) {h : RS} {x1 : Int32} {x2 : Int32} (hw : bp_M_answersPart_0 Q h x1 x2) : Z p l e R s m args below meth c D clM 24 a (ceM a q) 5 (MQ below (va_Qi Q (AtC D clM 24 a (ceM a q)) (inW a 24)) args s 0 0 (inW a 24)) h 0 [(0, .ref (a 0)), (1, .int x1), (2, .int x2)] [] := by
  unfold bp_M_answersPart_0 at hw
  refine z_iconst (v := (0 : Int32)) (pc := 0) X d_M_answersPart_0 (by decide) ?_
  refine z_istore_n (pc := 1) X d_M_answersPart_1 rfl (by decide) rfl ?_
  refine z_iconst (v := (0 : Int32)) (pc := 2) X d_M_answersPart_2 (by decide) ?_
  refine z_istore (pc := 3) X d_M_answersPart_3 (by decide) rfl ?_
  obtain ⟨n4, hw⟩ := hw
  exact z_to [2, 3, 4, 1, 0] rfl (kl_M_answersPart_5 X n4 _ _ _ _ _ hw)
theorem c_M_answersPart {l : Launch} {D : va_G} {a : Nat → Nat} {q : Nat → ClassId} (hI : injW a 24) {h : RS} {x1 : Int32} {x2 : Int32} {Q : Int32 → RS → Prop} (hw : wp_M_answersPart h x1 x2 Q) : Met l y_M_answersPart [.code y_M_answersPart b_M_answersPart 5 (some .boolean)] { frames := 0, cells := 0, slots := 0, locals := 0 } (va_Pc [.ref (a 0), .int x1, .int x2] (PreC tbW D clM (tyM q) 24 a (ceM a q) h)) (va_Qi Q (AtC D clM 24 a (ceM a q)) (inW a 24)) 0 0 (inW a 24) :=
  m_of (by decide +kernel) hI tb_ok (Nat.le_of_ble_eq_true rfl) (fun p e R s m below meth c X => kb_M_answersPart_0 X hw)
set_option maxHeartbeats 4000000 in
set_option maxRecDepth 100000 in
theorem kb_M_reply_0 {Q : Int32 → RS → Prop} (X : Cx p l R s m args meth c b_M_reply 6 R_M (some .boolean) D clM (tyM q) a 24 2 45 tbW) {h : RS} {x1 : Int32} {x2 : Int32} {x3 : Int32} {x4 : Int32} {x5 : Int32} (hw : bp_M_reply_0 Q h x1 x2 x3 x4 x5) : Z p l e R s m args below meth c D clM 24 a (ceM a q) 6 (MQ below (va_Qi Q (AtC D clM 24 a (ceM a q)) (inW a 24)) args s 0 0 (inW a 24)) h 0 [(0, .ref (a 0)), (1, .int x1), (2, .int x2), (3, .int x3), (4, .int x4), (5, .int x5)] [] := by
  unfold bp_M_reply_0 at hw
  refine z_aload_n (pc := 0) X 0 d_M_reply_0 rfl rfl ?_
  refine z_iload_n (pc := 1) X 1 d_M_reply_1 rfl rfl ?_
  refine z_cVi (i := 0) (pc := 2) X [.int _] (c_M_open X.2.2.2.2.2.2.2.2.1 hw) (by decide) (by decide) lk162 cd_M_open lk163 lk164 lk165 (by decide) (cM_M _) rfl nm_M_open rfl rfl (Nat.le_of_ble_eq_true rfl) d_M_reply_2 (fun r1 h2 hw => ?_)
  refine z_if_eq (tgt := 35) (pc := 5) X d_M_reply_5 (by decide) (fun hc => ?_) (fun hc => ?_)
  · have hw := hw.1 hc
    refine z_iconst (v := (0 : Int32)) (pc := 35) X d_M_reply_35 (by decide) ?_
    exact z_zret (pc := 36) X hw.1 d_M_reply_36 hw.2
  · have hw := hw.2 hc
    refine z_aload_n (pc := 8) X 0 d_M_reply_8 rfl rfl ?_
    refine z_iload_n (pc := 9) X 1 d_M_reply_9 rfl rfl ?_
    refine z_iload_n (pc := 10) X 2 d_M_reply_10 rfl rfl ?_
    refine z_cVi (i := 0) (pc := 11) X [.int _, .int _] (c_M_hasPart X.2.2.2.2.2.2.2.2.1 hw) (by decide) (by decide) lk174 cd_M_hasPart lk163 lk175 lk176 (by decide) (cM_M _) rfl nm_M_hasPart rfl rfl (Nat.le_of_ble_eq_true rfl) d_M_reply_11 (fun r3 h4 hw => ?_)
    refine z_if_eq (tgt := 35) (pc := 14) X d_M_reply_14 (by decide) (fun hc => ?_) (fun hc => ?_)
    · have hw := hw.1 hc
      refine z_iconst (v := (0 : Int32)) (pc := 35) X d_M_reply_35 (by decide) ?_
      exact z_zret (pc := 36) X hw.1 d_M_reply_36 hw.2
    · have hw := hw.2 hc
      refine z_aload_n (pc := 17) X 0 d_M_reply_17 rfl rfl ?_
      refine z_get (i := 0) (pc := 18) X (by decide) (cM_M _) rfl hin_M 1 (by decide) lk159 rfl rfl d_M_reply_18 ?_
      refine z_aload_n (pc := 21) X 0 d_M_reply_21 rfl rfl ?_
      refine z_get (i := 0) (pc := 22) X (by decide) (cM_M _) rfl hin_M 4 (by decide) lk169 rfl rfl d_M_reply_22 ?_
      refine z_iconst (v := (4 : Int32)) (pc := 25) X d_M_reply_25 (by decide) ?_
      refine z_iload_n (pc := 26) X 1 d_M_reply_26 rfl rfl ?_
      refine z_imul (pc := 27) X d_M_reply_27 ?_
      refine z_iload_n (pc := 28) X 2 d_M_reply_28 rfl rfl ?_
      refine z_iadd (pc := 29) X d_M_reply_29 ?_
      obtain ⟨k5, hk5, ek5, hw⟩ := hw
      refine z_iald (i := 3) (pc := 30) X 0 (by decide) (cM__partChannel _) rfl (by decide) hk5 ek5 d_M_reply_30 ?_
      obtain ⟨k6, hk6, ek6, hw⟩ := hw
      refine z_zald (i := 1) (pc := 31) X 1 (by decide) (cM__answered _) rfl (by decide) hk6 ek6 d_M_reply_31 ?_
      refine z_if_ne (tgt := 37) (pc := 32) X d_M_reply_32 (by decide) (fun hc => ?_) (fun hc => ?_)
      · have hw := hw.1 hc
        refine z_aload_n (pc := 37) X 0 d_M_reply_37 rfl rfl ?_
        refine z_iload_n (pc := 38) X 1 d_M_reply_38 rfl rfl ?_
        refine z_iload_n (pc := 39) X 2 d_M_reply_39 rfl rfl ?_
        refine z_cVi (i := 0) (pc := 40) X [.int _, .int _] (c_M_answersPart X.2.2.2.2.2.2.2.2.1 hw) (by decide) (by decide) lk189 cd_M_answersPart lk163 lk190 lk191 (by decide) (cM_M _) rfl nm_M_answersPart rfl rfl (Nat.le_of_ble_eq_true rfl) d_M_reply_40 (fun r7 h8 hw => ?_)
        refine z_if_ne (tgt := 67) (pc := 43) X d_M_reply_43 (by decide) (fun hc => ?_) (fun hc => ?_)
        · have hw := hw.1 hc
          refine z_iconst (v := (0 : Int32)) (pc := 67) X d_M_reply_67 (by decide) ?_
          exact z_zret (pc := 68) X hw.1 d_M_reply_68 hw.2
        · have hw := hw.2 hc
          refine z_aload_n (pc := 46) X 0 d_M_reply_46 rfl rfl ?_
          refine z_iload_n (pc := 47) X 1 d_M_reply_47 rfl rfl ?_
          refine z_iload_n (pc := 48) X 3 d_M_reply_48 rfl rfl ?_
          refine z_iload (pc := 49) X 4 d_M_reply_49 rfl ?_
          refine z_cVi (i := 0) (pc := 51) X [.int _, .int _, .int _] (c_M_expression X.2.2.2.2.2.2.2.2.1 hw) (by decide) (by decide) lk182 cd_M_expression lk163 lk183 lk184 (by decide) (cM_M _) rfl nm_M_expression rfl rfl (Nat.le_of_ble_eq_true rfl) d_M_reply_51 (fun r9 h10 hw => ?_)
          refine z_if_eq (tgt := 67) (pc := 54) X d_M_reply_54 (by decide) (fun hc => ?_) (fun hc => ?_)
          · have hw := hw.1 hc
            refine z_iconst (v := (0 : Int32)) (pc := 67) X d_M_reply_67 (by decide) ?_
            exact z_zret (pc := 68) X hw.1 d_M_reply_68 hw.2
          · have hw := hw.2 hc
            refine z_aload_n (pc := 57) X 0 d_M_reply_57 rfl rfl ?_
            refine z_get (i := 0) (pc := 58) X (by decide) (cM_M _) rfl hin_M 9 (by decide) lk177 rfl rfl d_M_reply_58 ?_
            refine z_iload_n (pc := 61) X 1 d_M_reply_61 rfl rfl ?_
            obtain ⟨k11, hk11, ek11, hw⟩ := hw
            refine z_iald (i := 8) (pc := 62) X 0 (by decide) (cM__actions _) rfl (by decide) hk11 ek11 d_M_reply_62 ?_
            refine z_iconst (v := (4 : Int32)) (pc := 63) X d_M_reply_63 (by decide) ?_
            refine z_icmp_lt (tgt := 69) (pc := 64) X d_M_reply_64 (by decide) (fun hc => ?_) (fun hc => ?_)
            · have hw := hw.1 hc
              refine z_aload_n (pc := 69) X 0 d_M_reply_69 rfl rfl ?_
              refine z_get (i := 0) (pc := 70) X (by decide) (cM_M _) rfl hin_M 14 (by decide) lk185 rfl rfl d_M_reply_70 ?_
              refine z_iconst (v := (4 : Int32)) (pc := 73) X d_M_reply_73 (by decide) ?_
              refine z_iload_n (pc := 74) X 1 d_M_reply_74 rfl rfl ?_
              refine z_imul (pc := 75) X d_M_reply_75 ?_
              refine z_aload_n (pc := 76) X 0 d_M_reply_76 rfl rfl ?_
              refine z_get (i := 0) (pc := 77) X (by decide) (cM_M _) rfl hin_M 9 (by decide) lk177 rfl rfl d_M_reply_77 ?_
              refine z_iload_n (pc := 80) X 1 d_M_reply_80 rfl rfl ?_
              obtain ⟨k12, hk12, ek12, hw⟩ := hw
              refine z_iald (i := 8) (pc := 81) X 0 (by decide) (cM__actions _) rfl (by decide) hk12 ek12 d_M_reply_81 ?_
              refine z_iadd (pc := 82) X d_M_reply_82 ?_
              refine z_iload (pc := 83) X 5 d_M_reply_83 rfl ?_
              obtain ⟨k13, hk13, ek13, hw⟩ := hw
              refine z_iast (i := 13) (pc := 85) X 0 (by decide) (fun g => (cM__number g)) rfl (by decide) hk13 ek13 d_M_reply_85 ?_
              have hw := hw _ rfl
              refine z_aload_n (pc := 86) X 0 d_M_reply_86 rfl rfl ?_
              refine z_iload_n (pc := 87) X 1 d_M_reply_87 rfl rfl ?_
              refine z_iconst (v := (-1 : Int32)) (pc := 88) X d_M_reply_88 (by decide) ?_
              refine z_iload_n (pc := 89) X 2 d_M_reply_89 rfl rfl ?_
              refine z_iload_n (pc := 90) X 3 d_M_reply_90 rfl rfl ?_
              refine z_iload (pc := 91) X 4 d_M_reply_91 rfl ?_
              refine z_cVv (i := 0) (pc := 93) X [.int _, .int _, .int _, .int _, .int _] (c_M_act X.2.2.2.2.2.2.2.2.1 hw) (by decide) (by decide) lk186 cd_M_act lk163 lk187 lk188 (by decide) (cM_M _) rfl nm_M_act rfl rfl (Nat.le_of_ble_eq_true rfl) d_M_reply_93 (fun h15 hw => ?_)
              refine z_iconst (v := (1 : Int32)) (pc := 96) X d_M_reply_96 (by decide) ?_
              exact z_zret (pc := 97) X hw.1 d_M_reply_97 hw.2
            · have hw := hw.2 hc
              refine z_iconst (v := (0 : Int32)) (pc := 67) X d_M_reply_67 (by decide) ?_
              exact z_zret (pc := 68) X hw.1 d_M_reply_68 hw.2
      · have hw := hw.2 hc
        refine z_iconst (v := (0 : Int32)) (pc := 35) X d_M_reply_35 (by decide) ?_
        exact z_zret (pc := 36) X hw.1 d_M_reply_36 hw.2
theorem c_M_reply {l : Launch} {D : va_G} {a : Nat → Nat} {q : Nat → ClassId} (hI : injW a 24) {h : RS} {x1 : Int32} {x2 : Int32} {x3 : Int32} {x4 : Int32} {x5 : Int32} {Q : Int32 → RS → Prop} (hw : wp_M_reply h x1 x2 x3 x4 x5 Q) : Met l y_M_reply [.code y_M_reply b_M_reply 6 (some .boolean)] { frames := 2, cells := 0, slots := 0, locals := 45 } (va_Pc [.ref (a 0), .int x1, .int x2, .int x3, .int x4, .int x5] (PreC tbW D clM (tyM q) 24 a (ceM a q) h)) (va_Qi Q (AtC D clM 24 a (ceM a q)) (inW a 24)) 0 0 (inW a 24) :=
  m_of (by decide +kernel) hI tb_ok (Nat.le_of_ble_eq_true rfl) (fun p e R s m below meth c X => kb_M_reply_0 X hw)
end
