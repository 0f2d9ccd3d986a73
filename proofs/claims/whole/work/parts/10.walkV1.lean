section
variable {p : Program} {l : Launch} {e : Env} {R : Room} {s : State} {m : MethodId} {args : Array Value} {below : List Frame} {meth : Method} {c : Code} {D : va_G} {a : Nat → Nat} {q : Nat → ClassId}
set_option maxHeartbeats 4000000 in
set_option maxRecDepth 100000 in
theorem kb_V_channel_0 {Q : Int32 → RS → Prop} (X : Cx p l R s m args meth c b_V_channel 2 R_V (some .int) D clV (tyV q) a 101 0 0 tbW) {h : RS} {x1 : Int32} (hw : bp_V_channel_0 Q h x1) : Z p l e R s m args below meth c D clV 101 a (ceV a q) 2 (MQ below (va_Qi Q (AtC D clV 101 a (ceV a q)) (inW a 101)) args s 0 0 (inW a 101)) h 0 [(0, .ref (a 0)), (1, .int x1)] [] := by
  unfold bp_V_channel_0 at hw
  refine z_aload_n (pc := 0) X 0 d_V_channel_0 rfl rfl ?_
  refine z_get (i := 0) (pc := 1) X (by decide) (cV_V _) rfl hin_V 4 (by decide) lk1 rfl rfl d_V_channel_1 ?_
  refine z_if_ne (tgt := 16) (pc := 4) X d_V_channel_4 (by decide) (fun hc => ?_) (fun hc => ?_)
  · have hw := hw.1 hc
    refine z_iconst (v := (-1 : Int32)) (pc := 16) X d_V_channel_16 (by decide) ?_
    exact z_iret (pc := 17) X d_V_channel_17 hw
  · have hw := hw.2 hc
    refine z_aload_n (pc := 7) X 0 d_V_channel_7 rfl rfl ?_
    refine z_get (i := 0) (pc := 8) X (by decide) (cV_V _) rfl hin_V 1 (by decide) lk2 rfl rfl d_V_channel_8 ?_
    refine z_bipush (v := (8 : Int32)) (pc := 11) X d_V_channel_11 (by decide) ?_
    refine z_icmp_lt (tgt := 18) (pc := 13) X d_V_channel_13 (by decide) (fun hc => ?_) (fun hc => ?_)
    · have hw := hw.1 hc
      refine z_aload_n (pc := 18) X 0 d_V_channel_18 rfl rfl ?_
      refine z_get (i := 0) (pc := 19) X (by decide) (cV_V _) rfl hin_V 0 (by decide) lk3 rfl rfl d_V_channel_19 ?_
      refine z_aload_n (pc := 22) X 0 d_V_channel_22 rfl rfl ?_
      refine z_get (i := 0) (pc := 23) X (by decide) (cV_V _) rfl hin_V 1 (by decide) lk2 rfl rfl d_V_channel_23 ?_
      obtain ⟨k1, hk1, ek1, hw⟩ := hw
      refine z_aald (i := 1) (g := fun j => 13 + j) (pc := 26) X 2 (by decide) (cV_Chs _) rfl (by decide) hk1 ek1 d_V_channel_26 ?_
      refine z_iload_n (pc := 27) X 1 d_V_channel_27 rfl rfl ?_
      obtain ⟨hB, hw⟩ := hw
      refine z_putN (i := (13 + k1)) (pc := 28) X (lt_ix hk1 (by decide)) (cV_Ch _ hk1) rfl hin_Ch t_Ch t_Ch_ok n_Ch 0 (by decide) lk4 rfl rfl (t_Ch_ok 0 (by decide)) (isB_n hB) (isB_f hB) (Nat.le_of_ble_eq_true rfl) (cV_Ch _ hk1) d_V_channel_28 ?_
      have hw := hw _ rfl
      refine z_aload_n (pc := 31) X 0 d_V_channel_31 rfl rfl ?_
      refine z_dup (pc := 32) X d_V_channel_32 rfl ?_
      refine z_get (i := 0) (pc := 33) X (by decide) (cV_V _) rfl hin_V 1 (by decide) lk2 rfl rfl d_V_channel_33 ?_
      refine z_iconst (v := (1 : Int32)) (pc := 36) X d_V_channel_36 (by decide) ?_
      refine z_iadd (pc := 37) X d_V_channel_37 ?_
      refine z_put (i := 0) (pc := 38) X (by decide) (cV_V _) rfl hin_V t_V t_V_ok n_V 1 (by decide) lk2 rfl rfl (t_V_ok 1 (by decide)) rfl rfl (Nat.le_of_ble_eq_true rfl) (cV_V _) d_V_channel_38 ?_
      have hw := hw _ rfl
      refine z_aload_n (pc := 41) X 0 d_V_channel_41 rfl rfl ?_
      refine z_get (i := 0) (pc := 42) X (by decide) (cV_V _) rfl hin_V 1 (by decide) lk2 rfl rfl d_V_channel_42 ?_
      refine z_iconst (v := (1 : Int32)) (pc := 45) X d_V_channel_45 (by decide) ?_
      refine z_isub (pc := 46) X d_V_channel_46 ?_
      exact z_iret (pc := 47) X d_V_channel_47 hw
    · have hw := hw.2 hc
      refine z_iconst (v := (-1 : Int32)) (pc := 16) X d_V_channel_16 (by decide) ?_
      exact z_iret (pc := 17) X d_V_channel_17 hw
theorem c_V_channel {l : Launch} {D : va_G} {a : Nat → Nat} {q : Nat → ClassId} (hI : injW a 101) {h : RS} {x1 : Int32} {Q : Int32 → RS → Prop} (hw : wp_V_channel h x1 Q) : Met l y_V_channel [.code y_V_channel b_V_channel 2 (some .int)] { frames := 0, cells := 0, slots := 0, locals := 0 } (va_Pc [.ref (a 0), .int x1] (PreC tbW D clV (tyV q) 101 a (ceV a q) h)) (va_Qi Q (AtC D clV 101 a (ceV a q)) (inW a 101)) 0 0 (inW a 101) :=
  m_of (by decide +kernel) hI tb_ok (Nat.le_of_ble_eq_true rfl) (fun p e R s m below meth c X => kb_V_channel_0 X hw)
set_option maxHeartbeats 4000000 in
set_option maxRecDepth 100000 in
theorem kb_V_reaction_0 {Q : Int32 → RS → Prop} (X : Cx p l R s m args meth c b_V_reaction 1 R_V (some .int) D clV (tyV q) a 101 0 0 tbW) {h : RS} (hw : bp_V_reaction_0 Q h) : Z p l e R s m args below meth c D clV 101 a (ceV a q) 1 (MQ below (va_Qi Q (AtC D clV 101 a (ceV a q)) (inW a 101)) args s 0 0 (inW a 101)) h 0 [(0, .ref (a 0))] [] := by
  unfold bp_V_reaction_0 at hw
  refine z_aload_n (pc := 0) X 0 d_V_reaction_0 rfl rfl ?_
  refine z_get (i := 0) (pc := 1) X (by decide) (cV_V _) rfl hin_V 4 (by decide) lk1 rfl rfl d_V_reaction_1 ?_
  refine z_if_ne (tgt := 16) (pc := 4) X d_V_reaction_4 (by decide) (fun hc => ?_) (fun hc => ?_)
  · have hw := hw.1 hc
    refine z_iconst (v := (-1 : Int32)) (pc := 16) X d_V_reaction_16 (by decide) ?_
    exact z_iret (pc := 17) X d_V_reaction_17 hw
  · have hw := hw.2 hc
    refine z_aload_n (pc := 7) X 0 d_V_reaction_7 rfl rfl ?_
    refine z_get (i := 0) (pc := 8) X (by decide) (cV_V _) rfl hin_V 3 (by decide) lk5 rfl rfl d_V_reaction_8 ?_
    refine z_bipush (v := (8 : Int32)) (pc := 11) X d_V_reaction_11 (by decide) ?_
    refine z_icmp_lt (tgt := 18) (pc := 13) X d_V_reaction_13 (by decide) (fun hc => ?_) (fun hc => ?_)
    · have hw := hw.1 hc
      refine z_aload_n (pc := 18) X 0 d_V_reaction_18 rfl rfl ?_
      refine z_dup (pc := 19) X d_V_reaction_19 rfl ?_
      refine z_get (i := 0) (pc := 20) X (by decide) (cV_V _) rfl hin_V 3 (by decide) lk5 rfl rfl d_V_reaction_20 ?_
      refine z_iconst (v := (1 : Int32)) (pc := 23) X d_V_reaction_23 (by decide) ?_
      refine z_iadd (pc := 24) X d_V_reaction_24 ?_
      refine z_put (i := 0) (pc := 25) X (by decide) (cV_V _) rfl hin_V t_V t_V_ok n_V 3 (by decide) lk5 rfl rfl (t_V_ok 3 (by decide)) rfl rfl (Nat.le_of_ble_eq_true rfl) (cV_V _) d_V_reaction_25 ?_
      have hw := hw _ rfl
      refine z_aload_n (pc := 28) X 0 d_V_reaction_28 rfl rfl ?_
      refine z_get (i := 0) (pc := 29) X (by decide) (cV_V _) rfl hin_V 3 (by decide) lk5 rfl rfl d_V_reaction_29 ?_
      refine z_iconst (v := (1 : Int32)) (pc := 32) X d_V_reaction_32 (by decide) ?_
      refine z_isub (pc := 33) X d_V_reaction_33 ?_
      exact z_iret (pc := 34) X d_V_reaction_34 hw
    · have hw := hw.2 hc
      refine z_iconst (v := (-1 : Int32)) (pc := 16) X d_V_reaction_16 (by decide) ?_
      exact z_iret (pc := 17) X d_V_reaction_17 hw
theorem c_V_reaction {l : Launch} {D : va_G} {a : Nat → Nat} {q : Nat → ClassId} (hI : injW a 101) {h : RS} {Q : Int32 → RS → Prop} (hw : wp_V_reaction h Q) : Met l y_V_reaction [.code y_V_reaction b_V_reaction 1 (some .int)] { frames := 0, cells := 0, slots := 0, locals := 0 } (va_Pc [.ref (a 0)] (PreC tbW D clV (tyV q) 101 a (ceV a q) h)) (va_Qi Q (AtC D clV 101 a (ceV a q)) (inW a 101)) 0 0 (inW a 101) :=
  m_of (by decide +kernel) hI tb_ok (Nat.le_of_ble_eq_true rfl) (fun p e R s m below meth c X => kb_V_reaction_0 X hw)
set_option maxHeartbeats 4000000 in
set_option maxRecDepth 100000 in
theorem kb_V_mayBuild_0 {Q : Int32 → RS → Prop} (X : Cx p l R s m args meth c b_V_mayBuild 2 R_V (some .boolean) D clV (tyV q) a 101 0 0 tbW) {h : RS} {x1 : Int32} (hw : bp_V_mayBuild_0 Q h x1) : Z p l e R s m args below meth c D clV 101 a (ceV a q) 2 (MQ below (va_Qi Q (AtC D clV 101 a (ceV a q)) (inW a 101)) args s 0 0 (inW a 101)) h 0 [(0, .ref (a 0)), (1, .int x1)] [] := by
  unfold bp_V_mayBuild_0 at hw
  refine z_aload_n (pc := 0) X 0 d_V_mayBuild_0 rfl rfl ?_
  refine z_get (i := 0) (pc := 1) X (by decide) (cV_V _) rfl hin_V 4 (by decide) lk1 rfl rfl d_V_mayBuild_1 ?_
  refine z_if_ne (tgt := 23) (pc := 4) X d_V_mayBuild_4 (by decide) (fun hc => ?_) (fun hc => ?_)
  · have hw := hw.1 hc
    refine z_iconst (v := (0 : Int32)) (pc := 23) X d_V_mayBuild_23 (by decide) ?_
    exact z_zret (pc := 24) X hw.1 d_V_mayBuild_24 hw.2
  · have hw := hw.2 hc
    refine z_iload_n (pc := 7) X 1 d_V_mayBuild_7 rfl rfl ?_
    refine z_if_lt (tgt := 23) (pc := 8) X d_V_mayBuild_8 (by decide) (fun hc => ?_) (fun hc => ?_)
    · have hw := hw.1 hc
      refine z_iconst (v := (0 : Int32)) (pc := 23) X d_V_mayBuild_23 (by decide) ?_
      exact z_zret (pc := 24) X hw.1 d_V_mayBuild_24 hw.2
    · have hw := hw.2 hc
      refine z_iload_n (pc := 11) X 1 d_V_mayBuild_11 rfl rfl ?_
      refine z_aload_n (pc := 12) X 0 d_V_mayBuild_12 rfl rfl ?_
      refine z_get (i := 0) (pc := 13) X (by decide) (cV_V _) rfl hin_V 3 (by decide) lk5 rfl rfl d_V_mayBuild_13 ?_
      refine z_icmp_ge (tgt := 23) (pc := 16) X d_V_mayBuild_16 (by decide) (fun hc => ?_) (fun hc => ?_)
      · have hw := hw.1 hc
        refine z_iconst (v := (0 : Int32)) (pc := 23) X d_V_mayBuild_23 (by decide) ?_
        exact z_zret (pc := 24) X hw.1 d_V_mayBuild_24 hw.2
      · have hw := hw.2 hc
        refine z_iconst (v := (1 : Int32)) (pc := 19) X d_V_mayBuild_19 (by decide) ?_
        refine z_goto (tgt := 24) (pc := 20) X d_V_mayBuild_20 (by decide) ?_
        exact z_zret (pc := 24) X hw.1 d_V_mayBuild_24 hw.2
theorem c_V_mayBuild {l : Launch} {D : va_G} {a : Nat → Nat} {q : Nat → ClassId} (hI : injW a 101) {h : RS} {x1 : Int32} {Q : Int32 → RS → Prop} (hw : wp_V_mayBuild h x1 Q) : Met l y_V_mayBuild [.code y_V_mayBuild b_V_mayBuild 2 (some .boolean)] { frames := 0, cells := 0, slots := 0, locals := 0 } (va_Pc [.ref (a 0), .int x1] (PreC tbW D clV (tyV q) 101 a (ceV a q) h)) (va_Qi Q (AtC D clV 101 a (ceV a q)) (inW a 101)) 0 0 (inW a 101) :=
  m_of (by decide +kernel) hI tb_ok (Nat.le_of_ble_eq_true rfl) (fun p e R s m below meth c X => kb_V_mayBuild_0 X hw)
set_option maxHeartbeats 4000000 in
set_option maxRecDepth 100000 in
theorem kb_V_isChannel_0 {Q : Int32 → RS → Prop} (X : Cx p l R s m args meth c b_V_isChannel 2 R_V (some .boolean) D clV (tyV q) a 101 0 0 tbW) {h : RS} {x1 : Int32} (hw : bp_V_isChannel_0 Q h x1) : Z p l e R s m args below meth c D clV 101 a (ceV a q) 2 (MQ below (va_Qi Q (AtC D clV 101 a (ceV a q)) (inW a 101)) args s 0 0 (inW a 101)) h 0 [(0, .ref (a 0)), (1, .int x1)] [] := by
  unfold bp_V_isChannel_0 at hw
  refine z_iload_n (pc := 0) X 1 d_V_isChannel_0 rfl rfl ?_
  refine z_if_lt (tgt := 16) (pc := 1) X d_V_isChannel_1 (by decide) (fun hc => ?_) (fun hc => ?_)
  · have hw := hw.1 hc
    refine z_iconst (v := (0 : Int32)) (pc := 16) X d_V_isChannel_16 (by decide) ?_
    exact z_zret (pc := 17) X hw.1 d_V_isChannel_17 hw.2
  · have hw := hw.2 hc
    refine z_iload_n (pc := 4) X 1 d_V_isChannel_4 rfl rfl ?_
    refine z_aload_n (pc := 5) X 0 d_V_isChannel_5 rfl rfl ?_
    refine z_get (i := 0) (pc := 6) X (by decide) (cV_V _) rfl hin_V 1 (by decide) lk2 rfl rfl d_V_isChannel_6 ?_
    refine z_icmp_ge (tgt := 16) (pc := 9) X d_V_isChannel_9 (by decide) (fun hc => ?_) (fun hc => ?_)
    · have hw := hw.1 hc
      refine z_iconst (v := (0 : Int32)) (pc := 16) X d_V_isChannel_16 (by decide) ?_
      exact z_zret (pc := 17) X hw.1 d_V_isChannel_17 hw.2
    · have hw := hw.2 hc
      refine z_iconst (v := (1 : Int32)) (pc := 12) X d_V_isChannel_12 (by decide) ?_
      refine z_goto (tgt := 17) (pc := 13) X d_V_isChannel_13 (by decide) ?_
      exact z_zret (pc := 17) X hw.1 d_V_isChannel_17 hw.2
theorem c_V_isChannel {l : Launch} {D : va_G} {a : Nat → Nat} {q : Nat → ClassId} (hI : injW a 101) {h : RS} {x1 : Int32} {Q : Int32 → RS → Prop} (hw : wp_V_isChannel h x1 Q) : Met l y_V_isChannel [.code y_V_isChannel b_V_isChannel 2 (some .boolean)] { frames := 0, cells := 0, slots := 0, locals := 0 } (va_Pc [.ref (a 0), .int x1] (PreC tbW D clV (tyV q) 101 a (ceV a q) h)) (va_Qi Q (AtC D clV 101 a (ceV a q)) (inW a 101)) 0 0 (inW a 101) :=
  m_of (by decide +kernel) hI tb_ok (Nat.le_of_ble_eq_true rfl) (fun p e R s m below meth c X => kb_V_isChannel_0 X hw)
set_option maxHeartbeats 4000000 in
set_option maxRecDepth 100000 in
theorem kb_V_isWithin_0 {Q : Int32 → RS → Prop} (X : Cx p l R s m args meth c b_V_isWithin 2 R_V (some .boolean) D clV (tyV q) a 101 0 0 tbW) {h : RS} {x0 : Int32} {x1 : Int32} (hw : bp_V_isWithin_0 Q h x0 x1) : Z p l e R s m args below meth c D clV 101 a (ceV a q) 2 (MQ below (va_Qi Q (AtC D clV 101 a (ceV a q)) (inW a 101)) args s 0 0 (inW a 101)) h 0 [(0, .int x0), (1, .int x1)] [] := by
  unfold bp_V_isWithin_0 at hw
  refine z_iload_n (pc := 0) X 0 d_V_isWithin_0 rfl rfl ?_
  refine z_if_lt (tgt := 13) (pc := 1) X d_V_isWithin_1 (by decide) (fun hc => ?_) (fun hc => ?_)
  · have hw := hw.1 hc
    refine z_iconst (v := (0 : Int32)) (pc := 13) X d_V_isWithin_13 (by decide) ?_
    exact z_zret (pc := 14) X hw.1 d_V_isWithin_14 hw.2
  · have hw := hw.2 hc
    refine z_iload_n (pc := 4) X 0 d_V_isWithin_4 rfl rfl ?_
    refine z_iload_n (pc := 5) X 1 d_V_isWithin_5 rfl rfl ?_
    refine z_icmp_gt (tgt := 13) (pc := 6) X d_V_isWithin_6 (by decide) (fun hc => ?_) (fun hc => ?_)
    · have hw := hw.1 hc
      refine z_iconst (v := (0 : Int32)) (pc := 13) X d_V_isWithin_13 (by decide) ?_
      exact z_zret (pc := 14) X hw.1 d_V_isWithin_14 hw.2
    · have hw := hw.2 hc
      refine z_iconst (v := (1 : Int32)) (pc := 9) X d_V_isWithin_9 (by decide) ?_
      refine z_goto (tgt := 14) (pc := 10) X d_V_isWithin_10 (by decide) ?_
      exact z_zret (pc := 14) X hw.1 d_V_isWithin_14 hw.2
theorem c_V_isWithin {l : Launch} {D : va_G} {a : Nat → Nat} {q : Nat → ClassId} (hI : injW a 101) {h : RS} {x0 : Int32} {x1 : Int32} {Q : Int32 → RS → Prop} (hw : wp_V_isWithin h x0 x1 Q) : Met l y_V_isWithin [.code y_V_isWithin b_V_isWithin 2 (some .boolean)] { frames := 0, cells := 0, slots := 0, locals := 0 } (va_Pc [.int x0, .int x1] (PreC tbW D clV (tyV q) 101 a (ceV a q) h)) (va_Qi Q (AtC D clV 101 a (ceV a q)) (inW a 101)) 0 0 (inW a 101) :=
  m_of (by decide +kernel) hI tb_ok (Nat.le_of_ble_eq_true rfl) (fun p e R s m below meth c X => kb_V_isWithin_0 X hw)
set_option maxHeartbeats 4000000 in
set_option maxRecDepth 100000 in
theorem kb_Re_addPart_0 {Q : Int32 → RS → Prop} (X : Cx p l R s m args meth c b_Re_addPart 5 R_Re (some .int) D clV (tyV q) a 101 0 0 tbW) {h : RS} {i0 : Nat} {x1 : Int32} {x2 : Int32} {x3 : Int32} (hi0 : i0 < 8) (hw : bp_Re_addPart_0 Q h i0 x1 x2 x3) : Z p l e R s m args below meth c D clV 101 a (ceV a q) 5 (MQ below (va_Qi Q (AtC D clV 101 a (ceV a q)) (inW a 101)) args s 0 0 (inW a 101)) h 0 [(0, .ref (a (29 + i0))), (1, .int x1), (2, .int x2), (3, .int x3)] [] := by
  unfold bp_Re_addPart_0 at hw
  refine z_aload_n (pc := 0) X 0 d_Re_addPart_0 rfl rfl ?_
  refine z_get (i := (29 + i0)) (pc := 1) X (lt_ix hi0 (by decide)) (cV_Re _ hi0) rfl hin_Re 0 (by decide) lk6 rfl rfl d_Re_addPart_1 ?_
  refine z_istore (pc := 4) X d_Re_addPart_4 (by decide) rfl ?_
  refine z_aload_n (pc := 6) X 1 d_Re_addPart_6 rfl rfl ?_
  refine z_get (i := (29 + i0)) (pc := 7) X (lt_ix hi0 (by decide)) (cV_Re _ hi0) rfl hin_Re 1 (by decide) lk7 rfl rfl d_Re_addPart_7 ?_
  refine z_iload (pc := 10) X 0 d_Re_addPart_10 rfl ?_
  refine z_iload_n (pc := 12) X 2 d_Re_addPart_12 rfl rfl ?_
  obtain ⟨k1, hk1, ek1, hw⟩ := hw
  refine z_iast (i := (37 + i0)) (pc := 13) X 0 (lt_ix hi0 (by decide)) (fun g => (cV_pC g hi0)) rfl (by decide) hk1 ek1 d_Re_addPart_13 ?_
  have hw := hw _ rfl
  refine z_aload_n (pc := 14) X 1 d_Re_addPart_14 rfl rfl ?_
  refine z_get (i := (29 + i0)) (pc := 15) X (lt_ix hi0 (by decide)) (cV_Re _ hi0) rfl hin_Re 2 (by decide) lk8 rfl rfl d_Re_addPart_15 ?_
  refine z_iload (pc := 18) X 0 d_Re_addPart_18 rfl ?_
  refine z_iload_n (pc := 20) X 3 d_Re_addPart_20 rfl rfl ?_
  obtain ⟨k3, hk3, ek3, hw⟩ := hw
  refine z_iast (i := (45 + i0)) (pc := 21) X 0 (lt_ix hi0 (by decide)) (fun g => (cV_pT g hi0)) rfl (by decide) hk3 ek3 d_Re_addPart_21 ?_
  have hw := hw _ rfl
  refine z_aload_n (pc := 22) X 1 d_Re_addPart_22 rfl rfl ?_
  refine z_get (i := (29 + i0)) (pc := 23) X (lt_ix hi0 (by decide)) (cV_Re _ hi0) rfl hin_Re 3 (by decide) lk9 rfl rfl d_Re_addPart_23 ?_
  refine z_iload (pc := 26) X 0 d_Re_addPart_26 rfl ?_
  refine z_iload_n (pc := 28) X 4 d_Re_addPart_28 rfl rfl ?_
  obtain ⟨k5, hk5, ek5, hw⟩ := hw
  refine z_iast (i := (53 + i0)) (pc := 29) X 0 (lt_ix hi0 (by decide)) (fun g => (cV_pN g hi0)) rfl (by decide) hk5 ek5 d_Re_addPart_29 ?_
  have hw := hw _ rfl
  refine z_aload_n (pc := 30) X 1 d_Re_addPart_30 rfl rfl ?_
  refine z_dup (pc := 31) X d_Re_addPart_31 rfl ?_
  refine z_get (i := (29 + i0)) (pc := 32) X (lt_ix hi0 (by decide)) (cV_Re _ hi0) rfl hin_Re 0 (by decide) lk6 rfl rfl d_Re_addPart_32 ?_
  refine z_iconst (v := (1 : Int32)) (pc := 35) X d_Re_addPart_35 (by decide) ?_
  refine z_iadd (pc := 36) X d_Re_addPart_36 ?_
  refine z_put (i := (29 + i0)) (pc := 37) X (lt_ix hi0 (by decide)) (cV_Re _ hi0) rfl hin_Re t_Re t_Re_ok n_Re 0 (by decide) lk6 rfl rfl (t_Re_ok 0 (by decide)) rfl rfl (Nat.le_of_ble_eq_true rfl) (cV_Re _ hi0) d_Re_addPart_37 ?_
  have hw := hw _ rfl
  refine z_iload (pc := 40) X 0 d_Re_addPart_40 rfl ?_
  exact z_iret (pc := 42) X d_Re_addPart_42 hw
theorem c_Re_addPart {l : Launch} {D : va_G} {a : Nat → Nat} {q : Nat → ClassId} (hI : injW a 101) {h : RS} {i0 : Nat} {x1 : Int32} {x2 : Int32} {x3 : Int32} (hi0 : i0 < 8) {Q : Int32 → RS → Prop} (hw : wp_Re_addPart h i0 x1 x2 x3 Q) : Met l y_Re_addPart [.code y_Re_addPart b_Re_addPart 5 (some .int)] { frames := 0, cells := 0, slots := 0, locals := 0 } (va_Pc [.ref (a (29 + i0)), .int x1, .int x2, .int x3] (PreC tbW D clV (tyV q) 101 a (ceV a q) h)) (va_Qi Q (AtC D clV 101 a (ceV a q)) (inW a 101)) 0 0 (inW a 101) :=
  m_of (by decide +kernel) hI tb_ok (Nat.le_of_ble_eq_true rfl) (fun p e R s m below meth c X => kb_Re_addPart_0 X hi0 hw)
set_option maxHeartbeats 4000000 in
set_option maxRecDepth 100000 in
theorem kb_V_part_0 {Q : Int32 → RS → Prop} (X : Cx p l R s m args meth c b_V_part 5 R_V (some .int) D clV (tyV q) a 101 1 24 tbW) {h : RS} {x1 : Int32} {x2 : Int32} {x3 : Int32} {x4 : Int32} (hw : bp_V_part_0 Q h x1 x2 x3 x4) : Z p l e R s m args below meth c D clV 101 a (ceV a q) 5 (MQ below (va_Qi Q (AtC D clV 101 a (ceV a q)) (inW a 101)) args s 0 0 (inW a 101)) h 0 [(0, .ref (a 0)), (1, .int x1), (2, .int x2), (3, .int x3), (4, .int x4)] [] := by
  unfold bp_V_part_0 at hw
  refine z_aload_n (pc := 0) X 0 d_V_part_0 rfl rfl ?_
  refine z_iload_n (pc := 1) X 1 d_V_part_1 rfl rfl ?_
  refine z_cVi (i := 0) (pc := 2) X [.int _] (c_V_mayBuild X.2.2.2.2.2.2.2.2.1 hw) (by decide) (by decide) lk10 cd_V_mayBuild lk11 lk12 lk13 (by decide) (cV_V _) rfl nm_V_mayBuild rfl rfl (Nat.le_of_ble_eq_true rfl) d_V_part_2 (fun r1 h2 hw => ?_)
  refine z_if_eq (tgt := 24) (pc := 5) X d_V_part_5 (by decide) (fun hc => ?_) (fun hc => ?_)
  · have hw := hw.1 hc
    refine z_iconst (v := (-1 : Int32)) (pc := 24) X d_V_part_24 (by decide) ?_
    exact z_iret (pc := 25) X d_V_part_25 hw
  · have hw := hw.2 hc
    refine z_aload_n (pc := 8) X 0 d_V_part_8 rfl rfl ?_
    refine z_iload_n (pc := 9) X 2 d_V_part_9 rfl rfl ?_
    refine z_cVi (i := 0) (pc := 10) X [.int _] (c_V_isChannel X.2.2.2.2.2.2.2.2.1 hw) (by decide) (by decide) lk14 cd_V_isChannel lk11 lk15 lk16 (by decide) (cV_V _) rfl nm_V_isChannel rfl rfl (Nat.le_of_ble_eq_true rfl) d_V_part_10 (fun r3 h4 hw => ?_)
    refine z_if_eq (tgt := 24) (pc := 13) X d_V_part_13 (by decide) (fun hc => ?_) (fun hc => ?_)
    · have hw := hw.1 hc
      refine z_iconst (v := (-1 : Int32)) (pc := 24) X d_V_part_24 (by decide) ?_
      exact z_iret (pc := 25) X d_V_part_25 hw
    · have hw := hw.2 hc
      refine z_iload_n (pc := 16) X 3 d_V_part_16 rfl rfl ?_
      refine z_iconst (v := (4 : Int32)) (pc := 17) X d_V_part_17 (by decide) ?_
      refine z_cSi (pc := 18) X [.int _, .int _] (c_V_isWithin X.2.2.2.2.2.2.2.2.1 hw) (by decide) (by decide) lk17 cd_V_isWithin lk11 lk18 nm_V_isWithin rfl rfl (Nat.le_of_ble_eq_true rfl) d_V_part_18 (fun r5 h6 hw => ?_)
      refine z_if_ne (tgt := 26) (pc := 21) X d_V_part_21 (by decide) (fun hc => ?_) (fun hc => ?_)
      · have hw := hw.1 hc
        refine z_aload_n (pc := 26) X 0 d_V_part_26 rfl rfl ?_
        refine z_get (i := 0) (pc := 27) X (by decide) (cV_V _) rfl hin_V 2 (by decide) lk19 rfl rfl d_V_part_27 ?_
        refine z_iload_n (pc := 30) X 1 d_V_part_30 rfl rfl ?_
        obtain ⟨k7, hk7, ek7, hw⟩ := hw
        refine z_aald (i := 2) (g := fun j => 29 + j) (pc := 31) X 3 (by decide) (cV_Res _) rfl (by decide) hk7 ek7 d_V_part_31 ?_
        refine z_getN (i := (29 + k7)) (pc := 32) X (lt_ix hk7 (by decide)) (cV_Re _ hk7) rfl hin_Re 0 (by decide) lk20 rfl rfl d_V_part_32 ?_
        refine z_iconst (v := (4 : Int32)) (pc := 35) X d_V_part_35 (by decide) ?_
        refine z_icmp_lt (tgt := 41) (pc := 36) X d_V_part_36 (by decide) (fun hc => ?_) (fun hc => ?_)
        · have hw := hw.1 hc
          refine z_aload_n (pc := 41) X 0 d_V_part_41 rfl rfl ?_
          refine z_get (i := 0) (pc := 42) X (by decide) (cV_V _) rfl hin_V 2 (by decide) lk19 rfl rfl d_V_part_42 ?_
          refine z_iload_n (pc := 45) X 1 d_V_part_45 rfl rfl ?_
          obtain ⟨k8, hk8, ek8, hw⟩ := hw
          refine z_aald (i := 2) (g := fun j => 29 + j) (pc := 46) X 3 (by decide) (cV_Res _) rfl (by decide) hk8 ek8 d_V_part_46 ?_
          refine z_iload_n (pc := 47) X 2 d_V_part_47 rfl rfl ?_
          refine z_iload_n (pc := 48) X 3 d_V_part_48 rfl rfl ?_
          refine z_iload (pc := 49) X 4 d_V_part_49 rfl ?_
          refine z_cVNi (i := (29 + k8)) (pc := 51) X [.int _, .int _, .int _] (c_Re_addPart X.2.2.2.2.2.2.2.2.1 hk8 hw) (by decide) (by decide) lk21 cd_Re_addPart lk22 lk23 lk24 (lt_ix hk8 (by decide)) (cV_Re _ hk8) rfl nm_Re_addPart rfl rfl (Nat.le_of_ble_eq_true rfl) d_V_part_51 (fun r9 h10 hw => ?_)
          exact z_iret (pc := 54) X d_V_part_54 hw
        · have hw := hw.2 hc
          refine z_iconst (v := (-1 : Int32)) (pc := 39) X d_V_part_39 (by decide) ?_
          exact z_iret (pc := 40) X d_V_part_40 hw
      · have hw := hw.2 hc
        refine z_iconst (v := (-1 : Int32)) (pc := 24) X d_V_part_24 (by decide) ?_
        exact z_iret (pc := 25) X d_V_part_25 hw
theorem c_V_part {l : Launch} {D : va_G} {a : Nat → Nat} {q : Nat → ClassId} (hI : injW a 101) {h : RS} {x1 : Int32} {x2 : Int32} {x3 : Int32} {x4 : Int32} {Q : Int32 → RS → Prop} (hw : wp_V_part h x1 x2 x3 x4 Q) : Met l y_V_part [.code y_V_part b_V_part 5 (some .int)] { frames := 1, cells := 0, slots := 0, locals := 24 } (va_Pc [.ref (a 0), .int x1, .int x2, .int x3, .int x4] (PreC tbW D clV (tyV q) 101 a (ceV a q) h)) (va_Qi Q (AtC D clV 101 a (ceV a q)) (inW a 101)) 0 0 (inW a 101) :=
  m_of (by decide +kernel) hI tb_ok (Nat.le_of_ble_eq_true rfl) (fun p e R s m below meth c X => kb_V_part_0 X hw)
set_option maxHeartbeats 4000000 in
set_option maxRecDepth 100000 in
theorem kb_V_guard_0 {Q : Int32 → RS → Prop} (X : Cx p l R s m args meth c b_V_guard 4 R_V (some .boolean) D clV (tyV q) a 101 1 21 tbW) {h : RS} {x1 : Int32} {x2 : Int32} {x3 : Int32} (hw : bp_V_guard_0 Q h x1 x2 x3) : Z p l e R s m args below meth c D clV 101 a (ceV a q) 4 (MQ below (va_Qi Q (AtC D clV 101 a (ceV a q)) (inW a 101)) args s 0 0 (inW a 101)) h 0 [(0, .ref (a 0)), (1, .int x1), (2, .int x2), (3, .int x3)] [] := by
  unfold bp_V_guard_0 at hw
  refine z_aload_n (pc := 0) X 0 d_V_guard_0 rfl rfl ?_
  refine z_iload_n (pc := 1) X 1 d_V_guard_1 rfl rfl ?_
  refine z_cVi (i := 0) (pc := 2) X [.int _] (c_V_mayBuild X.2.2.2.2.2.2.2.2.1 hw) (by decide) (by decide) lk10 cd_V_mayBuild lk11 lk12 lk13 (by decide) (cV_V _) rfl nm_V_mayBuild rfl rfl (Nat.le_of_ble_eq_true rfl) d_V_guard_2 (fun r1 h2 hw => ?_)
  refine z_if_eq (tgt := 16) (pc := 5) X d_V_guard_5 (by decide) (fun hc => ?_) (fun hc => ?_)
  · have hw := hw.1 hc
    refine z_iconst (v := (0 : Int32)) (pc := 16) X d_V_guard_16 (by decide) ?_
    exact z_zret (pc := 17) X hw.1 d_V_guard_17 hw.2
  · have hw := hw.2 hc
    refine z_iload_n (pc := 8) X 2 d_V_guard_8 rfl rfl ?_
    refine z_iconst (v := (5 : Int32)) (pc := 9) X d_V_guard_9 (by decide) ?_
    refine z_cSi (pc := 10) X [.int _, .int _] (c_V_isWithin X.2.2.2.2.2.2.2.2.1 hw) (by decide) (by decide) lk17 cd_V_isWithin lk11 lk18 nm_V_isWithin rfl rfl (Nat.le_of_ble_eq_true rfl) d_V_guard_10 (fun r3 h4 hw => ?_)
    refine z_if_ne (tgt := 18) (pc := 13) X d_V_guard_13 (by decide) (fun hc => ?_) (fun hc => ?_)
    · have hw := hw.1 hc
      refine z_aload_n (pc := 18) X 0 d_V_guard_18 rfl rfl ?_
      refine z_get (i := 0) (pc := 19) X (by decide) (cV_V _) rfl hin_V 2 (by decide) lk19 rfl rfl d_V_guard_19 ?_
      refine z_iload_n (pc := 22) X 1 d_V_guard_22 rfl rfl ?_
      obtain ⟨k5, hk5, ek5, hw⟩ := hw
      refine z_aald (i := 2) (g := fun j => 29 + j) (pc := 23) X 3 (by decide) (cV_Res _) rfl (by decide) hk5 ek5 d_V_guard_23 ?_
      refine z_iload_n (pc := 24) X 2 d_V_guard_24 rfl rfl ?_
      refine z_putN (i := (29 + k5)) (pc := 25) X (lt_ix hk5 (by decide)) (cV_Re _ hk5) rfl hin_Re t_Re t_Re_ok n_Re 4 (by decide) lk25 rfl rfl (t_Re_ok 4 (by decide)) rfl rfl (Nat.le_of_ble_eq_true rfl) (cV_Re _ hk5) d_V_guard_25 ?_
      have hw := hw _ rfl
      refine z_aload_n (pc := 28) X 0 d_V_guard_28 rfl rfl ?_
      refine z_get (i := 0) (pc := 29) X (by decide) (cV_V _) rfl hin_V 2 (by decide) lk19 rfl rfl d_V_guard_29 ?_
      refine z_iload_n (pc := 32) X 1 d_V_guard_32 rfl rfl ?_
      obtain ⟨k7, hk7, ek7, hw⟩ := hw
      refine z_aald (i := 2) (g := fun j => 29 + j) (pc := 33) X 3 (by decide) (cV_Res _) rfl (by decide) hk7 ek7 d_V_guard_33 ?_
      refine z_iload_n (pc := 34) X 3 d_V_guard_34 rfl rfl ?_
      refine z_putN (i := (29 + k7)) (pc := 35) X (lt_ix hk7 (by decide)) (cV_Re _ hk7) rfl hin_Re t_Re t_Re_ok n_Re 5 (by decide) lk26 rfl rfl (t_Re_ok 5 (by decide)) rfl rfl (Nat.le_of_ble_eq_true rfl) (cV_Re _ hk7) d_V_guard_35 ?_
      have hw := hw _ rfl
      refine z_iconst (v := (1 : Int32)) (pc := 38) X d_V_guard_38 (by decide) ?_
      exact z_zret (pc := 39) X hw.1 d_V_guard_39 hw.2
    · have hw := hw.2 hc
      refine z_iconst (v := (0 : Int32)) (pc := 16) X d_V_guard_16 (by decide) ?_
      exact z_zret (pc := 17) X hw.1 d_V_guard_17 hw.2
theorem c_V_guard {l : Launch} {D : va_G} {a : Nat → Nat} {q : Nat → ClassId} (hI : injW a 101) {h : RS} {x1 : Int32} {x2 : Int32} {x3 : Int32} {Q : Int32 → RS → Prop} (hw : wp_V_guard h x1 x2 x3 Q) : Met l y_V_guard [.code y_V_guard b_V_guard 4 (some .boolean)] { frames := 1, cells := 0, slots := 0, locals := 21 } (va_Pc [.ref (a 0), .int x1, .int x2, .int x3] (PreC tbW D clV (tyV q) 101 a (ceV a q) h)) (va_Qi Q (AtC D clV 101 a (ceV a q)) (inW a 101)) 0 0 (inW a 101) :=
  m_of (by decide +kernel) hI tb_ok (Nat.le_of_ble_eq_true rfl) (fun p e R s m below meth c X => kb_V_guard_0 X hw)
set_option maxHeartbeats 4000000 in
set_option maxRecDepth 100000 in
theorem kb_V_isChannelOf_0 {Q : Int32 → RS → Prop} (X : Cx p l R s m args meth c b_V_isChannelOf 3 R_V (some .boolean) D clV (tyV q) a 101 1 21 tbW) {h : RS} {x1 : Int32} {x2 : Int32} (hw : bp_V_isChannelOf_0 Q h x1 x2) : Z p l e R s m args below meth c D clV 101 a (ceV a q) 3 (MQ below (va_Qi Q (AtC D clV 101 a (ceV a q)) (inW a 101)) args s 0 0 (inW a 101)) h 0 [(0, .ref (a 0)), (1, .int x1), (2, .int x2)] [] := by
  unfold bp_V_isChannelOf_0 at hw
  refine z_aload_n (pc := 0) X 0 d_V_isChannelOf_0 rfl rfl ?_
  refine z_iload_n (pc := 1) X 1 d_V_isChannelOf_1 rfl rfl ?_
  refine z_cVi (i := 0) (pc := 2) X [.int _] (c_V_isChannel X.2.2.2.2.2.2.2.2.1 hw) (by decide) (by decide) lk14 cd_V_isChannel lk11 lk15 lk16 (by decide) (cV_V _) rfl nm_V_isChannel rfl rfl (Nat.le_of_ble_eq_true rfl) d_V_isChannelOf_2 (fun r1 h2 hw => ?_)
  refine z_if_eq (tgt := 25) (pc := 5) X d_V_isChannelOf_5 (by decide) (fun hc => ?_) (fun hc => ?_)
  · have hw := hw.1 hc
    refine z_iconst (v := (0 : Int32)) (pc := 25) X d_V_isChannelOf_25 (by decide) ?_
    exact z_zret (pc := 26) X hw.1 d_V_isChannelOf_26 hw.2
  · have hw := hw.2 hc
    refine z_aload_n (pc := 8) X 0 d_V_isChannelOf_8 rfl rfl ?_
    refine z_get (i := 0) (pc := 9) X (by decide) (cV_V _) rfl hin_V 0 (by decide) lk3 rfl rfl d_V_isChannelOf_9 ?_
    refine z_iload_n (pc := 12) X 1 d_V_isChannelOf_12 rfl rfl ?_
    obtain ⟨k3, hk3, ek3, hw⟩ := hw
    refine z_aald (i := 1) (g := fun j => 13 + j) (pc := 13) X 2 (by decide) (cV_Chs _) rfl (by decide) hk3 ek3 d_V_isChannelOf_13 ?_
    refine z_getN (i := (13 + k3)) (pc := 14) X (lt_ix hk3 (by decide)) (cV_Ch _ hk3) rfl hin_Ch 0 (by decide) lk4 rfl rfl d_V_isChannelOf_14 ?_
    refine z_iload_n (pc := 17) X 2 d_V_isChannelOf_17 rfl rfl ?_
    refine z_icmp_ne (tgt := 25) (pc := 18) X d_V_isChannelOf_18 (by decide) (fun hc => ?_) (fun hc => ?_)
    · have hw := hw.1 hc
      refine z_iconst (v := (0 : Int32)) (pc := 25) X d_V_isChannelOf_25 (by decide) ?_
      exact z_zret (pc := 26) X hw.1 d_V_isChannelOf_26 hw.2
    · have hw := hw.2 hc
      refine z_iconst (v := (1 : Int32)) (pc := 21) X d_V_isChannelOf_21 (by decide) ?_
      refine z_goto (tgt := 26) (pc := 22) X d_V_isChannelOf_22 (by decide) ?_
      exact z_zret (pc := 26) X hw.1 d_V_isChannelOf_26 hw.2
theorem c_V_isChannelOf {l : Launch} {D : va_G} {a : Nat → Nat} {q : Nat → ClassId} (hI : injW a 101) {h : RS} {x1 : Int32} {x2 : Int32} {Q : Int32 → RS → Prop} (hw : wp_V_isChannelOf h x1 x2 Q) : Met l y_V_isChannelOf [.code y_V_isChannelOf b_V_isChannelOf 3 (some .boolean)] { frames := 1, cells := 0, slots := 0, locals := 21 } (va_Pc [.ref (a 0), .int x1, .int x2] (PreC tbW D clV (tyV q) 101 a (ceV a q) h)) (va_Qi Q (AtC D clV 101 a (ceV a q)) (inW a 101)) 0 0 (inW a 101) :=
  m_of (by decide +kernel) hI tb_ok (Nat.le_of_ble_eq_true rfl) (fun p e R s m below meth c X => kb_V_isChannelOf_0 X hw)
set_option maxHeartbeats 4000000 in
set_option maxRecDepth 100000 in
theorem kb_Re_hasPart_0 {Q : Int32 → RS → Prop} (X : Cx p l R s m args meth c b_Re_hasPart 2 R_Re (some .boolean) D clV (tyV q) a 101 0 0 tbW) {h : RS} {i0 : Nat} {x1 : Int32} (hi0 : i0 < 8) (hw : bp_Re_hasPart_0 Q h i0 x1) : Z p l e R s m args below meth c D clV 101 a (ceV a q) 2 (MQ below (va_Qi Q (AtC D clV 101 a (ceV a q)) (inW a 101)) args s 0 0 (inW a 101)) h 0 [(0, .ref (a (29 + i0))), (1, .int x1)] [] := by
  unfold bp_Re_hasPart_0 at hw
  refine z_iload_n (pc := 0) X 1 d_Re_hasPart_0 rfl rfl ?_
  refine z_if_lt (tgt := 16) (pc := 1) X d_Re_hasPart_1 (by decide) (fun hc => ?_) (fun hc => ?_)
  · have hw := hw.1 hc
    refine z_iconst (v := (0 : Int32)) (pc := 16) X d_Re_hasPart_16 (by decide) ?_
    exact z_zret (pc := 17) X hw.1 d_Re_hasPart_17 hw.2
  · have hw := hw.2 hc
    refine z_iload_n (pc := 4) X 1 d_Re_hasPart_4 rfl rfl ?_
    refine z_aload_n (pc := 5) X 0 d_Re_hasPart_5 rfl rfl ?_
    refine z_get (i := (29 + i0)) (pc := 6) X (lt_ix hi0 (by decide)) (cV_Re _ hi0) rfl hin_Re 0 (by decide) lk6 rfl rfl d_Re_hasPart_6 ?_
    refine z_icmp_ge (tgt := 16) (pc := 9) X d_Re_hasPart_9 (by decide) (fun hc => ?_) (fun hc => ?_)
    · have hw := hw.1 hc
      refine z_iconst (v := (0 : Int32)) (pc := 16) X d_Re_hasPart_16 (by decide) ?_
      exact z_zret (pc := 17) X hw.1 d_Re_hasPart_17 hw.2
    · have hw := hw.2 hc
      refine z_iconst (v := (1 : Int32)) (pc := 12) X d_Re_hasPart_12 (by decide) ?_
      refine z_goto (tgt := 17) (pc := 13) X d_Re_hasPart_13 (by decide) ?_
      exact z_zret (pc := 17) X hw.1 d_Re_hasPart_17 hw.2
theorem c_Re_hasPart {l : Launch} {D : va_G} {a : Nat → Nat} {q : Nat → ClassId} (hI : injW a 101) {h : RS} {i0 : Nat} {x1 : Int32} (hi0 : i0 < 8) {Q : Int32 → RS → Prop} (hw : wp_Re_hasPart h i0 x1 Q) : Met l y_Re_hasPart [.code y_Re_hasPart b_Re_hasPart 2 (some .boolean)] { frames := 0, cells := 0, slots := 0, locals := 0 } (va_Pc [.ref (a (29 + i0)), .int x1] (PreC tbW D clV (tyV q) 101 a (ceV a q) h)) (va_Qi Q (AtC D clV 101 a (ceV a q)) (inW a 101)) 0 0 (inW a 101) :=
  m_of (by decide +kernel) hI tb_ok (Nat.le_of_ble_eq_true rfl) (fun p e R s m below meth c X => kb_Re_hasPart_0 X hi0 hw)
set_option maxHeartbeats 4000000 in
set_option maxRecDepth 100000 in
theorem kb_Re_mayAddAction_33 {Q : Int32 → RS → Prop} (X : Cx p l R s m args meth c b_Re_mayAddAction 4 R_Re (some .boolean) D clV (tyV q) a 101 1 21 tbW) {h : RS} {i0 : Nat} {x2 : Int32} {y0 : Int32} (hi0 : i0 < 8) (hw : bp_Re_mayAddAction_33 Q h i0 x2 y0) : Z p l e R s m args below meth c D clV 101 a (ceV a q) 4 (MQ below (va_Qi Q (AtC D clV 101 a (ceV a q)) (inW a 101)) args s 0 0 (inW a 101)) h 33 [(0, .ref (a (29 + i0))), (2, .int x2)] [.int y0] := by
  unfold bp_Re_mayAddAction_33 at hw
  refine z_istore_n (pc := 33) X d_Re_mayAddAction_33 rfl (by decide) rfl ?_
  refine z_iload_n (pc := 34) X 0 d_Re_mayAddAction_34 rfl rfl ?_
  refine z_if_eq (tgt := 46) (pc := 35) X d_Re_mayAddAction_35 (by decide) (fun hc => ?_) (fun hc => ?_)
  · have hw := hw.1 hc
    refine z_iconst (v := (1 : Int32)) (pc := 46) X d_Re_mayAddAction_46 (by decide) ?_
    refine z_goto (tgt := 51) (pc := 47) X d_Re_mayAddAction_47 (by decide) ?_
    exact z_zret (pc := 51) X hw.1 d_Re_mayAddAction_51 hw.2
  · have hw := hw.2 hc
    refine z_aload_n (pc := 38) X 1 d_Re_mayAddAction_38 rfl rfl ?_
    refine z_iload_n (pc := 39) X 2 d_Re_mayAddAction_39 rfl rfl ?_
    refine z_cVi (i := (29 + i0)) (pc := 40) X [.int _] (c_Re_hasPart X.2.2.2.2.2.2.2.2.1 hi0 hw) (by decide) (by decide) lk27 cd_Re_hasPart lk22 lk28 lk29 (lt_ix hi0 (by decide)) (cV_Re _ hi0) rfl nm_Re_hasPart rfl rfl (Nat.le_of_ble_eq_true rfl) d_Re_mayAddAction_40 (fun r1 h2 hw => ?_)
    refine z_if_eq (tgt := 50) (pc := 43) X d_Re_mayAddAction_43 (by decide) (fun hc => ?_) (fun hc => ?_)
    · have hw := hw.1 hc
      refine z_iconst (v := (0 : Int32)) (pc := 50) X d_Re_mayAddAction_50 (by decide) ?_
      exact z_zret (pc := 51) X hw.1 d_Re_mayAddAction_51 hw.2
    · have hw := hw.2 hc
      refine z_iconst (v := (1 : Int32)) (pc := 46) X d_Re_mayAddAction_46 (by decide) ?_
      refine z_goto (tgt := 51) (pc := 47) X d_Re_mayAddAction_47 (by decide) ?_
      exact z_zret (pc := 51) X hw.1 d_Re_mayAddAction_51 hw.2
set_option maxHeartbeats 4000000 in
set_option maxRecDepth 100000 in
theorem kb_Re_mayAddAction_28 {Q : Int32 → RS → Prop} (X : Cx p l R s m args meth c b_Re_mayAddAction 4 R_Re (some .boolean) D clV (tyV q) a 101 1 21 tbW) {h : RS} {i0 : Nat} {x2 : Int32} (hi0 : i0 < 8) (hw : bp_Re_mayAddAction_28 Q h i0 x2) : Z p l e R s m args below meth c D clV 101 a (ceV a q) 4 (MQ below (va_Qi Q (AtC D clV 101 a (ceV a q)) (inW a 101)) args s 0 0 (inW a 101)) h 28 [(0, .ref (a (29 + i0))), (2, .int x2)] [] := by
  unfold bp_Re_mayAddAction_28 at hw
  refine z_iconst (v := (1 : Int32)) (pc := 28) X d_Re_mayAddAction_28 (by decide) ?_
  refine z_goto (tgt := 33) (pc := 29) X d_Re_mayAddAction_29 (by decide) ?_
  exact z_to [0, 1] rfl (kb_Re_mayAddAction_33 X hi0 hw)
set_option maxHeartbeats 4000000 in
set_option maxRecDepth 100000 in
theorem kb_Re_mayAddAction_0 {Q : Int32 → RS → Prop} (X : Cx p l R s m args meth c b_Re_mayAddAction 4 R_Re (some .boolean) D clV (tyV q) a 101 1 21 tbW) {h : RS} {i0 : Nat} {x1 : Int32} {x2 : Int32} (hi0 : i0 < 8) (hw : bp_Re_mayAddAction_0 Q h i0 x1 x2) : Z p l e R s m args below meth c D clV 101 a (ceV a q) 4 (MQ below (va_Qi Q (AtC D clV 101 a (ceV a q)) (inW a 101)) args s 0 0 (inW a 101)) h 0 [(0, .ref (a (29 + i0))), (1, .int x1), (2, .int x2)] [] := by
  unfold bp_Re_mayAddAction_0 at hw
  refine z_iload_n (pc := 0) X 1 d_Re_mayAddAction_0 rfl rfl ?_
  refine z_iconst (v := (4 : Int32)) (pc := 1) X d_Re_mayAddAction_1 (by decide) ?_
  refine z_cSNi (pc := 2) X [.int _, .int _] (c_V_isWithin X.2.2.2.2.2.2.2.2.1 hw) (by decide) (by decide) lk30 cd_V_isWithin lk11 lk18 nm_V_isWithin rfl rfl (Nat.le_of_ble_eq_true rfl) d_Re_mayAddAction_2 (fun r3 h4 hw => ?_)
  refine z_if_eq (tgt := 16) (pc := 5) X d_Re_mayAddAction_5 (by decide) (fun hc => ?_) (fun hc => ?_)
  · have hw := hw.1 hc
    refine z_iconst (v := (0 : Int32)) (pc := 16) X d_Re_mayAddAction_16 (by decide) ?_
    exact z_zret (pc := 17) X hw.1 d_Re_mayAddAction_17 hw.2
  · have hw := hw.2 hc
    refine z_aload_n (pc := 8) X 0 d_Re_mayAddAction_8 rfl rfl ?_
    refine z_get (i := (29 + i0)) (pc := 9) X (lt_ix hi0 (by decide)) (cV_Re _ hi0) rfl hin_Re 6 (by decide) lk31 rfl rfl d_Re_mayAddAction_9 ?_
    refine z_iconst (v := (4 : Int32)) (pc := 12) X d_Re_mayAddAction_12 (by decide) ?_
    refine z_icmp_lt (tgt := 18) (pc := 13) X d_Re_mayAddAction_13 (by decide) (fun hc => ?_) (fun hc => ?_)
    · have hw := hw.1 hc
      refine z_iload_n (pc := 18) X 1 d_Re_mayAddAction_18 rfl rfl ?_
      refine z_iconst (v := (1 : Int32)) (pc := 19) X d_Re_mayAddAction_19 (by decide) ?_
      refine z_icmp_eq (tgt := 28) (pc := 20) X d_Re_mayAddAction_20 (by decide) (fun hc => ?_) (fun hc => ?_)
      · have hw := hw.1 hc
        exact z_to [0, 2] rfl (kb_Re_mayAddAction_28 X hi0 hw)
      · have hw := hw.2 hc
        refine z_iload_n (pc := 23) X 1 d_Re_mayAddAction_23 rfl rfl ?_
        refine z_iconst (v := (2 : Int32)) (pc := 24) X d_Re_mayAddAction_24 (by decide) ?_
        refine z_icmp_ne (tgt := 32) (pc := 25) X d_Re_mayAddAction_25 (by decide) (fun hc => ?_) (fun hc => ?_)
        · have hw := hw.1 hc
          refine z_iconst (v := (0 : Int32)) (pc := 32) X d_Re_mayAddAction_32 (by decide) ?_
          exact z_to [0, 2] rfl (kb_Re_mayAddAction_33 X hi0 hw)
        · have hw := hw.2 hc
          exact z_to [0, 2] rfl (kb_Re_mayAddAction_28 X hi0 hw)
    · have hw := hw.2 hc
      refine z_iconst (v := (0 : Int32)) (pc := 16) X d_Re_mayAddAction_16 (by decide) ?_
      exact z_zret (pc := 17) X hw.1 d_Re_mayAddAction_17 hw.2
theorem c_Re_mayAddAction {l : Launch} {D : va_G} {a : Nat → Nat} {q : Nat → ClassId} (hI : injW a 101) {h : RS} {i0 : Nat} {x1 : Int32} {x2 : Int32} (hi0 : i0 < 8) {Q : Int32 → RS → Prop} (hw : wp_Re_mayAddAction h i0 x1 x2 Q) : Met l y_Re_mayAddAction [.code y_Re_mayAddAction b_Re_mayAddAction 4 (some .boolean)] { frames := 1, cells := 0, slots := 0, locals := 21 } (va_Pc [.ref (a (29 + i0)), .int x1, .int x2] (PreC tbW D clV (tyV q) 101 a (ceV a q) h)) (va_Qi Q (AtC D clV 101 a (ceV a q)) (inW a 101)) 0 0 (inW a 101) :=
  m_of (by decide +kernel) hI tb_ok (Nat.le_of_ble_eq_true rfl) (fun p e R s m below meth c X => kb_Re_mayAddAction_0 X hi0 hw)
set_option maxHeartbeats 4000000 in
set_option maxRecDepth 100000 in
theorem kb_Re_addAction_0 {Q : RS → Prop} (X : Cx p l R s m args meth c b_Re_addAction 7 R_Re none D clV (tyV q) a 101 0 0 tbW) {h : RS} {i0 : Nat} {x1 : Int32} {x2 : Int32} {x3 : Int32} {x4 : Int32} {x5 : Int32} (hi0 : i0 < 8) (hw : bp_Re_addAction_0 Q h i0 x1 x2 x3 x4 x5) : Z p l e R s m args below meth c D clV 101 a (ceV a q) 7 (MQ below (va_Qv Q (AtC D clV 101 a (ceV a q)) (inW a 101)) args s 0 0 (inW a 101)) h 0 [(0, .ref (a (29 + i0))), (1, .int x1), (2, .int x2), (3, .int x3), (4, .int x4), (5, .int x5)] [] := by
  unfold bp_Re_addAction_0 at hw
  refine z_aload_n (pc := 0) X 0 d_Re_addAction_0 rfl rfl ?_
  refine z_get (i := (29 + i0)) (pc := 1) X (lt_ix hi0 (by decide)) (cV_Re _ hi0) rfl hin_Re 6 (by decide) lk31 rfl rfl d_Re_addAction_1 ?_
  refine z_istore (pc := 4) X d_Re_addAction_4 (by decide) rfl ?_
  refine z_aload_n (pc := 6) X 1 d_Re_addAction_6 rfl rfl ?_
  refine z_get (i := (29 + i0)) (pc := 7) X (lt_ix hi0 (by decide)) (cV_Re _ hi0) rfl hin_Re 7 (by decide) lk32 rfl rfl d_Re_addAction_7 ?_
  refine z_iload (pc := 10) X 0 d_Re_addAction_10 rfl ?_
  refine z_iload_n (pc := 12) X 2 d_Re_addAction_12 rfl rfl ?_
  obtain ⟨k1, hk1, ek1, hw⟩ := hw
  obtain ⟨hB, hw⟩ := hw
  refine z_zast (i := (61 + i0)) (pc := 13) X 1 (lt_ix hi0 (by decide)) (fun g => (cV_aS g hi0)) rfl (by decide) hk1 ek1 hB d_Re_addAction_13 ?_
  have hw := hw _ rfl
  refine z_aload_n (pc := 14) X 1 d_Re_addAction_14 rfl rfl ?_
  refine z_get (i := (29 + i0)) (pc := 15) X (lt_ix hi0 (by decide)) (cV_Re _ hi0) rfl hin_Re 8 (by decide) lk33 rfl rfl d_Re_addAction_15 ?_
  refine z_iload (pc := 18) X 0 d_Re_addAction_18 rfl ?_
  refine z_iload_n (pc := 20) X 3 d_Re_addAction_20 rfl rfl ?_
  obtain ⟨k3, hk3, ek3, hw⟩ := hw
  refine z_iast (i := (69 + i0)) (pc := 21) X 0 (lt_ix hi0 (by decide)) (fun g => (cV_aT g hi0)) rfl (by decide) hk3 ek3 d_Re_addAction_21 ?_
  have hw := hw _ rfl
  refine z_aload_n (pc := 22) X 1 d_Re_addAction_22 rfl rfl ?_
  refine z_get (i := (29 + i0)) (pc := 23) X (lt_ix hi0 (by decide)) (cV_Re _ hi0) rfl hin_Re 9 (by decide) lk34 rfl rfl d_Re_addAction_23 ?_
  refine z_iload (pc := 26) X 0 d_Re_addAction_26 rfl ?_
  refine z_iload_n (pc := 28) X 4 d_Re_addAction_28 rfl rfl ?_
  obtain ⟨k5, hk5, ek5, hw⟩ := hw
  refine z_iast (i := (77 + i0)) (pc := 29) X 0 (lt_ix hi0 (by decide)) (fun g => (cV_aK g hi0)) rfl (by decide) hk5 ek5 d_Re_addAction_29 ?_
  have hw := hw _ rfl
  refine z_aload_n (pc := 30) X 1 d_Re_addAction_30 rfl rfl ?_
  refine z_get (i := (29 + i0)) (pc := 31) X (lt_ix hi0 (by decide)) (cV_Re _ hi0) rfl hin_Re 10 (by decide) lk35 rfl rfl d_Re_addAction_31 ?_
  refine z_iload (pc := 34) X 0 d_Re_addAction_34 rfl ?_
  refine z_iload (pc := 36) X 5 d_Re_addAction_36 rfl ?_
  obtain ⟨k7, hk7, ek7, hw⟩ := hw
  refine z_iast (i := (85 + i0)) (pc := 38) X 0 (lt_ix hi0 (by decide)) (fun g => (cV_aP g hi0)) rfl (by decide) hk7 ek7 d_Re_addAction_38 ?_
  have hw := hw _ rfl
  refine z_aload_n (pc := 39) X 1 d_Re_addAction_39 rfl rfl ?_
  refine z_get (i := (29 + i0)) (pc := 40) X (lt_ix hi0 (by decide)) (cV_Re _ hi0) rfl hin_Re 11 (by decide) lk36 rfl rfl d_Re_addAction_40 ?_
  refine z_iload (pc := 43) X 0 d_Re_addAction_43 rfl ?_
  refine z_iload (pc := 45) X 6 d_Re_addAction_45 rfl ?_
  obtain ⟨k9, hk9, ek9, hw⟩ := hw
  refine z_iast (i := (93 + i0)) (pc := 47) X 0 (lt_ix hi0 (by decide)) (fun g => (cV_aN g hi0)) rfl (by decide) hk9 ek9 d_Re_addAction_47 ?_
  have hw := hw _ rfl
  refine z_aload_n (pc := 48) X 1 d_Re_addAction_48 rfl rfl ?_
  refine z_dup (pc := 49) X d_Re_addAction_49 rfl ?_
  refine z_get (i := (29 + i0)) (pc := 50) X (lt_ix hi0 (by decide)) (cV_Re _ hi0) rfl hin_Re 6 (by decide) lk31 rfl rfl d_Re_addAction_50 ?_
  refine z_iconst (v := (1 : Int32)) (pc := 53) X d_Re_addAction_53 (by decide) ?_
  refine z_iadd (pc := 54) X d_Re_addAction_54 ?_
  refine z_put (i := (29 + i0)) (pc := 55) X (lt_ix hi0 (by decide)) (cV_Re _ hi0) rfl hin_Re t_Re t_Re_ok n_Re 6 (by decide) lk31 rfl rfl (t_Re_ok 6 (by decide)) rfl rfl (Nat.le_of_ble_eq_true rfl) (cV_Re _ hi0) d_Re_addAction_55 ?_
  have hw := hw _ rfl
  exact z_vret (pc := 58) X d_Re_addAction_58 hw
theorem c_Re_addAction {l : Launch} {D : va_G} {a : Nat → Nat} {q : Nat → ClassId} (hI : injW a 101) {h : RS} {i0 : Nat} {x1 : Int32} {x2 : Int32} {x3 : Int32} {x4 : Int32} {x5 : Int32} (hi0 : i0 < 8) {Q : RS → Prop} (hw : wp_Re_addAction h i0 x1 x2 x3 x4 x5 Q) : Met l y_Re_addAction [.code y_Re_addAction b_Re_addAction 7 none] { frames := 0, cells := 0, slots := 0, locals := 0 } (va_Pc [.ref (a (29 + i0)), .int x1, .int x2, .int x3, .int x4, .int x5] (PreC tbW D clV (tyV q) 101 a (ceV a q) h)) (va_Qv Q (AtC D clV 101 a (ceV a q)) (inW a 101)) 0 0 (inW a 101) :=
  m_of (by decide +kernel) hI tb_ok (Nat.le_of_ble_eq_true rfl) (fun p e R s m below meth c X => kb_Re_addAction_0 X hi0 hw)
set_option maxHeartbeats 4000000 in
set_option maxRecDepth 100000 in
theorem kb_V_emit_0 {Q : Int32 → RS → Prop} (X : Cx p l R s m args meth c b_V_emit 6 R_V (some .boolean) D clV (tyV q) a 101 2 44 tbW) {h : RS} {x1 : Int32} {x2 : Int32} {x3 : Int32} {x4 : Int32} {x5 : Int32} (hw : bp_V_emit_0 Q h x1 x2 x3 x4 x5) : Z p l e R s m args below meth c D clV 101 a (ceV a q) 6 (MQ below (va_Qi Q (AtC D clV 101 a (ceV a q)) (inW a 101)) args s 0 0 (inW a 101)) h 0 [(0, .ref (a 0)), (1, .int x1), (2, .int x2), (3, .int x3), (4, .int x4), (5, .int x5)] [] := by
  unfold bp_V_emit_0 at hw
  refine z_aload_n (pc := 0) X 0 d_V_emit_0 rfl rfl ?_
  refine z_iload_n (pc := 1) X 1 d_V_emit_1 rfl rfl ?_
  refine z_cVi (i := 0) (pc := 2) X [.int _] (c_V_mayBuild X.2.2.2.2.2.2.2.2.1 hw) (by decide) (by decide) lk10 cd_V_mayBuild lk11 lk12 lk13 (by decide) (cV_V _) rfl nm_V_mayBuild rfl rfl (Nat.le_of_ble_eq_true rfl) d_V_emit_2 (fun r1 h2 hw => ?_)
  refine z_if_eq (tgt := 17) (pc := 5) X d_V_emit_5 (by decide) (fun hc => ?_) (fun hc => ?_)
  · have hw := hw.1 hc
    refine z_iconst (v := (0 : Int32)) (pc := 17) X d_V_emit_17 (by decide) ?_
    exact z_zret (pc := 18) X hw.1 d_V_emit_18 hw.2
  · have hw := hw.2 hc
    refine z_aload_n (pc := 8) X 0 d_V_emit_8 rfl rfl ?_
    refine z_iload_n (pc := 9) X 2 d_V_emit_9 rfl rfl ?_
    refine z_iconst (v := (0 : Int32)) (pc := 10) X d_V_emit_10 (by decide) ?_
    refine z_cVi (i := 0) (pc := 11) X [.int _, .int _] (c_V_isChannelOf X.2.2.2.2.2.2.2.2.1 hw) (by decide) (by decide) lk37 cd_V_isChannelOf lk11 lk38 lk39 (by decide) (cV_V _) rfl nm_V_isChannelOf rfl rfl (Nat.le_of_ble_eq_true rfl) d_V_emit_11 (fun r3 h4 hw => ?_)
    refine z_if_ne (tgt := 19) (pc := 14) X d_V_emit_14 (by decide) (fun hc => ?_) (fun hc => ?_)
    · have hw := hw.1 hc
      refine z_aload_n (pc := 19) X 0 d_V_emit_19 rfl rfl ?_
      refine z_get (i := 0) (pc := 20) X (by decide) (cV_V _) rfl hin_V 2 (by decide) lk19 rfl rfl d_V_emit_20 ?_
      refine z_iload_n (pc := 23) X 1 d_V_emit_23 rfl rfl ?_
      obtain ⟨k5, hk5, ek5, hw⟩ := hw
      refine z_aald (i := 2) (g := fun j => 29 + j) (pc := 24) X 3 (by decide) (cV_Res _) rfl (by decide) hk5 ek5 d_V_emit_24 ?_
      refine z_iload_n (pc := 25) X 3 d_V_emit_25 rfl rfl ?_
      refine z_iload (pc := 26) X 4 d_V_emit_26 rfl ?_
      refine z_cVNi (i := (29 + k5)) (pc := 28) X [.int _, .int _] (c_Re_mayAddAction X.2.2.2.2.2.2.2.2.1 hk5 hw) (by decide) (by decide) lk40 cd_Re_mayAddAction lk22 lk41 lk42 (lt_ix hk5 (by decide)) (cV_Re _ hk5) rfl nm_Re_mayAddAction rfl rfl (Nat.le_of_ble_eq_true rfl) d_V_emit_28 (fun r6 h7 hw => ?_)
      refine z_if_ne (tgt := 36) (pc := 31) X d_V_emit_31 (by decide) (fun hc => ?_) (fun hc => ?_)
      · have hw := hw.1 hc
        refine z_aload_n (pc := 36) X 0 d_V_emit_36 rfl rfl ?_
        refine z_get (i := 0) (pc := 37) X (by decide) (cV_V _) rfl hin_V 2 (by decide) lk19 rfl rfl d_V_emit_37 ?_
        refine z_iload_n (pc := 40) X 1 d_V_emit_40 rfl rfl ?_
        obtain ⟨k8, hk8, ek8, hw⟩ := hw
        refine z_aald (i := 2) (g := fun j => 29 + j) (pc := 41) X 3 (by decide) (cV_Res _) rfl (by decide) hk8 ek8 d_V_emit_41 ?_
        refine z_iconst (v := (1 : Int32)) (pc := 42) X d_V_emit_42 (by decide) ?_
        refine z_iload_n (pc := 43) X 2 d_V_emit_43 rfl rfl ?_
        refine z_iload_n (pc := 44) X 3 d_V_emit_44 rfl rfl ?_
        refine z_iload (pc := 45) X 4 d_V_emit_45 rfl ?_
        refine z_iload (pc := 47) X 5 d_V_emit_47 rfl ?_
        refine z_cVNv (i := (29 + k8)) (pc := 49) X [.int _, .int _, .int _, .int _, .int _] (c_Re_addAction X.2.2.2.2.2.2.2.2.1 hk8 hw) (by decide) (by decide) lk43 cd_Re_addAction lk22 lk44 lk45 (lt_ix hk8 (by decide)) (cV_Re _ hk8) rfl nm_Re_addAction rfl rfl (Nat.le_of_ble_eq_true rfl) d_V_emit_49 (fun h9 hw => ?_)
        refine z_iconst (v := (1 : Int32)) (pc := 52) X d_V_emit_52 (by decide) ?_
        exact z_zret (pc := 53) X hw.1 d_V_emit_53 hw.2
      · have hw := hw.2 hc
        refine z_iconst (v := (0 : Int32)) (pc := 34) X d_V_emit_34 (by decide) ?_
        exact z_zret (pc := 35) X hw.1 d_V_emit_35 hw.2
    · have hw := hw.2 hc
      refine z_iconst (v := (0 : Int32)) (pc := 17) X d_V_emit_17 (by decide) ?_
      exact z_zret (pc := 18) X hw.1 d_V_emit_18 hw.2
theorem c_V_emit {l : Launch} {D : va_G} {a : Nat → Nat} {q : Nat → ClassId} (hI : injW a 101) {h : RS} {x1 : Int32} {x2 : Int32} {x3 : Int32} {x4 : Int32} {x5 : Int32} {Q : Int32 → RS → Prop} (hw : wp_V_emit h x1 x2 x3 x4 x5 Q) : Met l y_V_emit [.code y_V_emit b_V_emit 6 (some .boolean)] { frames := 2, cells := 0, slots := 0, locals := 44 } (va_Pc [.ref (a 0), .int x1, .int x2, .int x3, .int x4, .int x5] (PreC tbW D clV (tyV q) 101 a (ceV a q) h)) (va_Qi Q (AtC D clV 101 a (ceV a q)) (inW a 101)) 0 0 (inW a 101) :=
  m_of (by decide +kernel) hI tb_ok (Nat.le_of_ble_eq_true rfl) (fun p e R s m below meth c X => kb_V_emit_0 X hw)
set_option maxHeartbeats 4000000 in
set_option maxRecDepth 100000 in
theorem kb_Re_hasReplyTo_2 {Q : Int32 → RS → Prop} (X : Cx p l R s m args meth c b_Re_hasReplyTo 3 R_Re (some .boolean) D clV (tyV q) a 101 0 0 tbW) {K2 : RS → Nat → Int32 → Int32 → Prop} (hK2 : ∀ (h : RS) (i0 : Nat) (x1 : Int32) (x2 : Int32), i0 < 8 → K2 h i0 x1 x2 → Z p l e R s m args below meth c D clV 101 a (ceV a q) 3 (MQ below (va_Qi Q (AtC D clV 101 a (ceV a q)) (inW a 101)) args s 0 0 (inW a 101)) h 2 [(0, .ref (a (29 + i0))), (1, .int x1), (2, .int x2)] []) {h : RS} {i0 : Nat} {x1 : Int32} {x2 : Int32} (hi0 : i0 < 8) (hw : bp_Re_hasReplyTo_2 K2 Q h i0 x1 x2) : Z p l e R s m args below meth c D clV 101 a (ceV a q) 3 (MQ below (va_Qi Q (AtC D clV 101 a (ceV a q)) (inW a 101)) args s 0 0 (inW a 101)) h 2 [(0, .ref (a (29 + i0))), (1, .int x1), (2, .int x2)] [] := by
  unfold bp_Re_hasReplyTo_2 at hw
  refine z_iload_n (pc := 2) X 2 d_Re_hasReplyTo_2 rfl rfl ?_
  refine z_aload_n (pc := 3) X 0 d_Re_hasReplyTo_3 rfl rfl ?_
  refine z_get (i := (29 + i0)) (pc := 4) X (lt_ix hi0 (by decide)) (cV_Re _ hi0) rfl hin_Re 6 (by decide) lk31 rfl rfl d_Re_hasReplyTo_4 ?_
  refine z_icmp_ge (tgt := 37) (pc := 7) X d_Re_hasReplyTo_7 (by decide) (fun hc => ?_) (fun hc => ?_)
  · have hw := hw.1 hc
    refine z_iconst (v := (0 : Int32)) (pc := 37) X d_Re_hasReplyTo_37 (by decide) ?_
    exact z_zret (pc := 38) X hw.1 d_Re_hasReplyTo_38 hw.2
  · have hw := hw.2 hc
    refine z_aload_n (pc := 10) X 0 d_Re_hasReplyTo_10 rfl rfl ?_
    refine z_get (i := (29 + i0)) (pc := 11) X (lt_ix hi0 (by decide)) (cV_Re _ hi0) rfl hin_Re 7 (by decide) lk32 rfl rfl d_Re_hasReplyTo_11 ?_
    refine z_iload_n (pc := 14) X 2 d_Re_hasReplyTo_14 rfl rfl ?_
    obtain ⟨k1, hk1, ek1, hw⟩ := hw
    refine z_zald (i := (61 + i0)) (pc := 15) X 1 (lt_ix hi0 (by decide)) (cV_aS _ hi0) rfl (by decide) hk1 ek1 d_Re_hasReplyTo_15 ?_
    refine z_if_ne (tgt := 31) (pc := 16) X d_Re_hasReplyTo_16 (by decide) (fun hc => ?_) (fun hc => ?_)
    · have hw := hw.1 hc
      refine z_iinc (v := (x2 + 1)) (pc := 31) X 2 d_Re_hasReplyTo_31 rfl rfl (by decide) rfl ?_
      refine z_goto (tgt := 2) (pc := 34) X d_Re_hasReplyTo_34 (by decide) ?_
      exact z_to [1, 2, 0] rfl (hK2 _ _ _ _ hi0 hw)
    · have hw := hw.2 hc
      refine z_aload_n (pc := 19) X 0 d_Re_hasReplyTo_19 rfl rfl ?_
      refine z_get (i := (29 + i0)) (pc := 20) X (lt_ix hi0 (by decide)) (cV_Re _ hi0) rfl hin_Re 8 (by decide) lk33 rfl rfl d_Re_hasReplyTo_20 ?_
      refine z_iload_n (pc := 23) X 2 d_Re_hasReplyTo_23 rfl rfl ?_
      obtain ⟨k2, hk2, ek2, hw⟩ := hw
      refine z_iald (i := (69 + i0)) (pc := 24) X 0 (lt_ix hi0 (by decide)) (cV_aT _ hi0) rfl (by decide) hk2 ek2 d_Re_hasReplyTo_24 ?_
      refine z_iload_n (pc := 25) X 1 d_Re_hasReplyTo_25 rfl rfl ?_
      refine z_icmp_ne (tgt := 31) (pc := 26) X d_Re_hasReplyTo_26 (by decide) (fun hc => ?_) (fun hc => ?_)
      · have hw := hw.1 hc
        refine z_iinc (v := (x2 + 1)) (pc := 31) X 2 d_Re_hasReplyTo_31 rfl rfl (by decide) rfl ?_
        refine z_goto (tgt := 2) (pc := 34) X d_Re_hasReplyTo_34 (by decide) ?_
        exact z_to [1, 2, 0] rfl (hK2 _ _ _ _ hi0 hw)
      · have hw := hw.2 hc
        refine z_iconst (v := (1 : Int32)) (pc := 29) X d_Re_hasReplyTo_29 (by decide) ?_
        exact z_zret (pc := 30) X hw.1 d_Re_hasReplyTo_30 hw.2
theorem kl_Re_hasReplyTo_2 {Q : Int32 → RS → Prop} (X : Cx p l R s m args meth c b_Re_hasReplyTo 3 R_Re (some .boolean) D clV (tyV q) a 101 0 0 tbW) : ∀ (n : Nat) (h : RS) (i0 : Nat) (x1 : Int32) (x2 : Int32), i0 < 8 → wp_Re_hasReplyTo_2 Q n h i0 x1 x2 → Z p l e R s m args below meth c D clV 101 a (ceV a q) 3 (MQ below (va_Qi Q (AtC D clV 101 a (ceV a q)) (inW a 101)) args s 0 0 (inW a 101)) h 2 [(0, .ref (a (29 + i0))), (1, .int x1), (2, .int x2)] [] := by
  intro n
  induction n with
  | zero =>
    intro h i0 x1 x2 hi0 hw
    exact hw.elim
  | succ n ih =>
    intro h i0 x1 x2 hi0 hw
    exact kb_Re_hasReplyTo_2 X ih hi0 hw
set_option maxHeartbeats 4000000 in
set_option maxRecDepth 100000 in
theorem kb_Re_hasReplyTo_0 {Q : Int32 → RS → Prop} (X : Cx p l R s m args meth c b_Re_hasReplyTo 3 R_Re (some .boolean) D clV (tyV q) a 101 0 0 tbW) {h : RS} {i0 : Nat} {x1 : Int32} (hi0 : i0 < 8) (hw : bp_Re_hasReplyTo_0 Q h i0 x1) : Z p l e R s m args below meth c D clV 101 a (ceV a q) 3 (MQ below (va_Qi Q (AtC D clV 101 a (ceV a q)) (inW a 101)) args s 0 0 (inW a 101)) h 0 [(0, .ref (a (29 + i0))), (1, .int x1)] [] := by
  unfold bp_Re_hasReplyTo_0 at hw
  refine z_iconst (v := (0 : Int32)) (pc := 0) X d_Re_hasReplyTo_0 (by decide) ?_
  refine z_istore_n (pc := 1) X d_Re_hasReplyTo_1 rfl (by decide) rfl ?_
  obtain ⟨n3, hw⟩ := hw
  exact z_to [1, 2, 0] rfl (kl_Re_hasReplyTo_2 X n3 _ _ _ _ hi0 hw)
theorem c_Re_hasReplyTo {l : Launch} {D : va_G} {a : Nat → Nat} {q : Nat → ClassId} (hI : injW a 101) {h : RS} {i0 : Nat} {x1 : Int32} (hi0 : i0 < 8) {Q : Int32 → RS → Prop} (hw : wp_Re_hasReplyTo h i0 x1 Q) : Met l y_Re_hasReplyTo [.code y_Re_hasReplyTo b_Re_hasReplyTo 3 (some .boolean)] { frames := 0, cells := 0, slots := 0, locals := 0 } (va_Pc [.ref (a (29 + i0)), .int x1] (PreC tbW D clV (tyV q) 101 a (ceV a q) h)) (va_Qi Q (AtC D clV 101 a (ceV a q)) (inW a 101)) 0 0 (inW a 101) :=
  m_of (by decide +kernel) hI tb_ok (Nat.le_of_ble_eq_true rfl) (fun p e R s m below meth c X => kb_Re_hasReplyTo_0 X hi0 hw)
set_option maxHeartbeats 4000000 in
set_option maxRecDepth 100000 in
theorem kb_V_reply_0 {Q : Int32 → RS → Prop} (X : Cx p l R s m args meth c b_V_reply 7 R_V (some .boolean) D clV (tyV q) a 101 2 44 tbW) {h : RS} {x1 : Int32} {x2 : Int32} {x3 : Int32} {x4 : Int32} {x5 : Int32} (hw : bp_V_reply_0 Q h x1 x2 x3 x4 x5) : Z p l e R s m args below meth c D clV 101 a (ceV a q) 7 (MQ below (va_Qi Q (AtC D clV 101 a (ceV a q)) (inW a 101)) args s 0 0 (inW a 101)) h 0 [(0, .ref (a 0)), (1, .int x1), (2, .int x2), (3, .int x3), (4, .int x4), (5, .int x5)] [] := by
  unfold bp_V_reply_0 at hw
  refine z_aload_n (pc := 0) X 0 d_V_reply_0 rfl rfl ?_
  refine z_iload_n (pc := 1) X 1 d_V_reply_1 rfl rfl ?_
  refine z_cVi (i := 0) (pc := 2) X [.int _] (c_V_mayBuild X.2.2.2.2.2.2.2.2.1 hw) (by decide) (by decide) lk10 cd_V_mayBuild lk11 lk12 lk13 (by decide) (cV_V _) rfl nm_V_mayBuild rfl rfl (Nat.le_of_ble_eq_true rfl) d_V_reply_2 (fun r1 h2 hw => ?_)
  refine z_if_eq (tgt := 21) (pc := 5) X d_V_reply_5 (by decide) (fun hc => ?_) (fun hc => ?_)
  · have hw := hw.1 hc
    refine z_iconst (v := (0 : Int32)) (pc := 21) X d_V_reply_21 (by decide) ?_
    exact z_zret (pc := 22) X hw.1 d_V_reply_22 hw.2
  · have hw := hw.2 hc
    refine z_aload_n (pc := 8) X 0 d_V_reply_8 rfl rfl ?_
    refine z_get (i := 0) (pc := 9) X (by decide) (cV_V _) rfl hin_V 2 (by decide) lk19 rfl rfl d_V_reply_9 ?_
    refine z_iload_n (pc := 12) X 1 d_V_reply_12 rfl rfl ?_
    obtain ⟨k3, hk3, ek3, hw⟩ := hw
    refine z_aald (i := 2) (g := fun j => 29 + j) (pc := 13) X 3 (by decide) (cV_Res _) rfl (by decide) hk3 ek3 d_V_reply_13 ?_
    refine z_iload_n (pc := 14) X 2 d_V_reply_14 rfl rfl ?_
    refine z_cVNi (i := (29 + k3)) (pc := 15) X [.int _] (c_Re_hasPart X.2.2.2.2.2.2.2.2.1 hk3 hw) (by decide) (by decide) lk46 cd_Re_hasPart lk22 lk28 lk29 (lt_ix hk3 (by decide)) (cV_Re _ hk3) rfl nm_Re_hasPart rfl rfl (Nat.le_of_ble_eq_true rfl) d_V_reply_15 (fun r4 h5 hw => ?_)
    refine z_if_ne (tgt := 23) (pc := 18) X d_V_reply_18 (by decide) (fun hc => ?_) (fun hc => ?_)
    · have hw := hw.1 hc
      refine z_aload_n (pc := 23) X 0 d_V_reply_23 rfl rfl ?_
      refine z_get (i := 0) (pc := 24) X (by decide) (cV_V _) rfl hin_V 2 (by decide) lk19 rfl rfl d_V_reply_24 ?_
      refine z_iload_n (pc := 27) X 1 d_V_reply_27 rfl rfl ?_
      obtain ⟨k6, hk6, ek6, hw⟩ := hw
      refine z_aald (i := 2) (g := fun j => 29 + j) (pc := 28) X 3 (by decide) (cV_Res _) rfl (by decide) hk6 ek6 d_V_reply_28 ?_
      refine z_astore (pc := 29) X d_V_reply_29 (by decide) rfl ?_
      refine z_aload_n (pc := 31) X 1 d_V_reply_31 rfl rfl ?_
      refine z_get (i := 0) (pc := 32) X (by decide) (cV_V _) rfl hin_V 0 (by decide) lk3 rfl rfl d_V_reply_32 ?_
      refine z_aload (pc := 35) X 0 d_V_reply_35 rfl ?_
      refine z_getN (i := (29 + k6)) (pc := 37) X (lt_ix hk6 (by decide)) (cV_Re _ hk6) rfl hin_Re 1 (by decide) lk47 rfl rfl d_V_reply_37 ?_
      refine z_iload_n (pc := 40) X 3 d_V_reply_40 rfl rfl ?_
      obtain ⟨k7, hk7, ek7, hw⟩ := hw
      refine z_iald (i := (37 + k6)) (pc := 41) X 0 (lt_ix hk6 (by decide)) (cV_pC _ hk6) rfl (by decide) hk7 ek7 d_V_reply_41 ?_
      obtain ⟨k8, hk8, ek8, hw⟩ := hw
      refine z_aald (i := 1) (g := fun j => 13 + j) (pc := 42) X 2 (by decide) (cV_Chs _) rfl (by decide) hk8 ek8 d_V_reply_42 ?_
      refine z_getN (i := (13 + k8)) (pc := 43) X (lt_ix hk8 (by decide)) (cV_Ch _ hk8) rfl hin_Ch 0 (by decide) lk4 rfl rfl d_V_reply_43 ?_
      refine z_if_eq (tgt := 58) (pc := 46) X d_V_reply_46 (by decide) (fun hc => ?_) (fun hc => ?_)
      · have hw := hw.1 hc
        refine z_iconst (v := (0 : Int32)) (pc := 58) X d_V_reply_58 (by decide) ?_
        exact z_zret (pc := 59) X hw.1 d_V_reply_59 hw.2
      · have hw := hw.2 hc
        refine z_aload (pc := 49) X 0 d_V_reply_49 rfl ?_
        refine z_iload_n (pc := 51) X 3 d_V_reply_51 rfl rfl ?_
        refine z_cVNi (i := (29 + k6)) (pc := 52) X [.int _] (c_Re_hasReplyTo X.2.2.2.2.2.2.2.2.1 hk6 hw) (by decide) (by decide) lk48 cd_Re_hasReplyTo lk22 lk49 lk50 (lt_ix hk6 (by decide)) (cV_Re _ hk6) rfl nm_Re_hasReplyTo rfl rfl (Nat.le_of_ble_eq_true rfl) d_V_reply_52 (fun r9 h10 hw => ?_)
        refine z_if_eq (tgt := 60) (pc := 55) X d_V_reply_55 (by decide) (fun hc => ?_) (fun hc => ?_)
        · have hw := hw.1 hc
          refine z_aload (pc := 60) X 0 d_V_reply_60 rfl ?_
          refine z_iload_n (pc := 62) X 4 d_V_reply_62 rfl rfl ?_
          refine z_iload (pc := 63) X 5 d_V_reply_63 rfl ?_
          refine z_cVNi (i := (29 + k6)) (pc := 65) X [.int _, .int _] (c_Re_mayAddAction X.2.2.2.2.2.2.2.2.1 hk6 hw) (by decide) (by decide) lk40 cd_Re_mayAddAction lk22 lk41 lk42 (lt_ix hk6 (by decide)) (cV_Re _ hk6) rfl nm_Re_mayAddAction rfl rfl (Nat.le_of_ble_eq_true rfl) d_V_reply_65 (fun r11 h12 hw => ?_)
          refine z_if_ne (tgt := 73) (pc := 68) X d_V_reply_68 (by decide) (fun hc => ?_) (fun hc => ?_)
          · have hw := hw.1 hc
            refine z_aload (pc := 73) X 0 d_V_reply_73 rfl ?_
            refine z_iconst (v := (0 : Int32)) (pc := 75) X d_V_reply_75 (by decide) ?_
            refine z_iload_n (pc := 76) X 3 d_V_reply_76 rfl rfl ?_
            refine z_iload_n (pc := 77) X 4 d_V_reply_77 rfl rfl ?_
            refine z_iload (pc := 78) X 5 d_V_reply_78 rfl ?_
            refine z_iload (pc := 80) X 6 d_V_reply_80 rfl ?_
            refine z_cVNv (i := (29 + k6)) (pc := 82) X [.int _, .int _, .int _, .int _, .int _] (c_Re_addAction X.2.2.2.2.2.2.2.2.1 hk6 hw) (by decide) (by decide) lk43 cd_Re_addAction lk22 lk44 lk45 (lt_ix hk6 (by decide)) (cV_Re _ hk6) rfl nm_Re_addAction rfl rfl (Nat.le_of_ble_eq_true rfl) d_V_reply_82 (fun h13 hw => ?_)
            refine z_iconst (v := (1 : Int32)) (pc := 85) X d_V_reply_85 (by decide) ?_
            exact z_zret (pc := 86) X hw.1 d_V_reply_86 hw.2
          · have hw := hw.2 hc
            refine z_iconst (v := (0 : Int32)) (pc := 71) X d_V_reply_71 (by decide) ?_
            exact z_zret (pc := 72) X hw.1 d_V_reply_72 hw.2
        · have hw := hw.2 hc
          refine z_iconst (v := (0 : Int32)) (pc := 58) X d_V_reply_58 (by decide) ?_
          exact z_zret (pc := 59) X hw.1 d_V_reply_59 hw.2
    · have hw := hw.2 hc
      refine z_iconst (v := (0 : Int32)) (pc := 21) X d_V_reply_21 (by decide) ?_
      exact z_zret (pc := 22) X hw.1 d_V_reply_22 hw.2
theorem c_V_reply {l : Launch} {D : va_G} {a : Nat → Nat} {q : Nat → ClassId} (hI : injW a 101) {h : RS} {x1 : Int32} {x2 : Int32} {x3 : Int32} {x4 : Int32} {x5 : Int32} {Q : Int32 → RS → Prop} (hw : wp_V_reply h x1 x2 x3 x4 x5 Q) : Met l y_V_reply [.code y_V_reply b_V_reply 7 (some .boolean)] { frames := 2, cells := 0, slots := 0, locals := 44 } (va_Pc [.ref (a 0), .int x1, .int x2, .int x3, .int x4, .int x5] (PreC tbW D clV (tyV q) 101 a (ceV a q) h)) (va_Qi Q (AtC D clV 101 a (ceV a q)) (inW a 101)) 0 0 (inW a 101) :=
  m_of (by decide +kernel) hI tb_ok (Nat.le_of_ble_eq_true rfl) (fun p e R s m below meth c X => kb_V_reply_0 X hw)
end
