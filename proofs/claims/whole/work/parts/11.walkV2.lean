section
variable {p : Program} {l : Launch} {e : Env} {R : Room} {s : State} {m : MethodId} {args : Array Value} {below : List Frame} {meth : Method} {c : Code} {D : va_G} {a : Nat → Nat} {q : Nat → ClassId}
set_option maxHeartbeats 4000000 in
set_option maxRecDepth 100000 in
theorem kb_V_leavesCallUnanswered_2 {Q : Int32 → RS → Prop} (X : Cx p l R s m args meth c b_V_leavesCallUnanswered 3 R_V (some .boolean) D clV (tyV q) a 101 1 22 tbW) {K2 : RS → Nat → Int32 → Prop} (hK2 : ∀ (h : RS) (i1 : Nat) (x2 : Int32), i1 < 8 → K2 h i1 x2 → Z p l e R s m args below meth c D clV 101 a (ceV a q) 3 (MQ below (va_Qi Q (AtC D clV 101 a (ceV a q)) (inW a 101)) args s 0 0 (inW a 101)) h 2 [(0, .ref (a 0)), (1, .ref (a (29 + i1))), (2, .int x2)] []) {h : RS} {i1 : Nat} {x2 : Int32} (hi1 : i1 < 8) (hw : bp_V_leavesCallUnanswered_2 K2 Q h i1 x2) : Z p l e R s m args below meth c D clV 101 a (ceV a q) 3 (MQ below (va_Qi Q (AtC D clV 101 a (ceV a q)) (inW a 101)) args s 0 0 (inW a 101)) h 2 [(0, .ref (a 0)), (1, .ref (a (29 + i1))), (2, .int x2)] [] := by
  unfold bp_V_leavesCallUnanswered_2 at hw
  refine z_iload_n (pc := 2) X 2 d_V_leavesCallUnanswered_2 rfl rfl ?_
  refine z_aload_n (pc := 3) X 1 d_V_leavesCallUnanswered_3 rfl rfl ?_
  refine z_getN (i := (29 + i1)) (pc := 4) X (lt_ix hi1 (by decide)) (cV_Re _ hi1) rfl hin_Re 0 (by decide) lk20 rfl rfl d_V_leavesCallUnanswered_4 ?_
  refine z_icmp_ge (tgt := 43) (pc := 7) X d_V_leavesCallUnanswered_7 (by decide) (fun hc => ?_) (fun hc => ?_)
  · have hw := hw.1 hc
    refine z_iconst (v := (0 : Int32)) (pc := 43) X d_V_leavesCallUnanswered_43 (by decide) ?_
    exact z_zret (pc := 44) X hw.1 d_V_leavesCallUnanswered_44 hw.2
  · have hw := hw.2 hc
    refine z_aload_n (pc := 10) X 0 d_V_leavesCallUnanswered_10 rfl rfl ?_
    refine z_get (i := 0) (pc := 11) X (by decide) (cV_V _) rfl hin_V 0 (by decide) lk3 rfl rfl d_V_leavesCallUnanswered_11 ?_
    refine z_aload_n (pc := 14) X 1 d_V_leavesCallUnanswered_14 rfl rfl ?_
    refine z_getN (i := (29 + i1)) (pc := 15) X (lt_ix hi1 (by decide)) (cV_Re _ hi1) rfl hin_Re 1 (by decide) lk47 rfl rfl d_V_leavesCallUnanswered_15 ?_
    refine z_iload_n (pc := 18) X 2 d_V_leavesCallUnanswered_18 rfl rfl ?_
    obtain ⟨k1, hk1, ek1, hw⟩ := hw
    refine z_iald (i := (37 + i1)) (pc := 19) X 0 (lt_ix hi1 (by decide)) (cV_pC _ hi1) rfl (by decide) hk1 ek1 d_V_leavesCallUnanswered_19 ?_
    obtain ⟨k2, hk2, ek2, hw⟩ := hw
    refine z_aald (i := 1) (g := fun j => 13 + j) (pc := 20) X 2 (by decide) (cV_Chs _) rfl (by decide) hk2 ek2 d_V_leavesCallUnanswered_20 ?_
    refine z_getN (i := (13 + k2)) (pc := 21) X (lt_ix hk2 (by decide)) (cV_Ch _ hk2) rfl hin_Ch 0 (by decide) lk4 rfl rfl d_V_leavesCallUnanswered_21 ?_
    refine z_if_eq (tgt := 37) (pc := 24) X d_V_leavesCallUnanswered_24 (by decide) (fun hc => ?_) (fun hc => ?_)
    · have hw := hw.1 hc
      refine z_iinc (v := (x2 + 1)) (pc := 37) X 2 d_V_leavesCallUnanswered_37 rfl rfl (by decide) rfl ?_
      refine z_goto (tgt := 2) (pc := 40) X d_V_leavesCallUnanswered_40 (by decide) ?_
      exact z_to [1, 2, 0] rfl (hK2 _ _ _ hi1 hw)
    · have hw := hw.2 hc
      refine z_aload_n (pc := 27) X 1 d_V_leavesCallUnanswered_27 rfl rfl ?_
      refine z_iload_n (pc := 28) X 2 d_V_leavesCallUnanswered_28 rfl rfl ?_
      refine z_cVNi (i := (29 + i1)) (pc := 29) X [.int _] (c_Re_hasReplyTo X.2.2.2.2.2.2.2.2.1 hi1 hw) (by decide) (by decide) lk48 cd_Re_hasReplyTo lk22 lk49 lk50 (lt_ix hi1 (by decide)) (cV_Re _ hi1) rfl nm_Re_hasReplyTo rfl rfl (Nat.le_of_ble_eq_true rfl) d_V_leavesCallUnanswered_29 (fun r3 h4 hw => ?_)
      refine z_if_ne (tgt := 37) (pc := 32) X d_V_leavesCallUnanswered_32 (by decide) (fun hc => ?_) (fun hc => ?_)
      · have hw := hw.1 hc
        refine z_iinc (v := (x2 + 1)) (pc := 37) X 2 d_V_leavesCallUnanswered_37 rfl rfl (by decide) rfl ?_
        refine z_goto (tgt := 2) (pc := 40) X d_V_leavesCallUnanswered_40 (by decide) ?_
        exact z_to [1, 2, 0] rfl (hK2 _ _ _ hi1 hw)
      · have hw := hw.2 hc
        refine z_iconst (v := (1 : Int32)) (pc := 35) X d_V_leavesCallUnanswered_35 (by decide) ?_
        exact z_zret (pc := 36) X hw.1 d_V_leavesCallUnanswered_36 hw.2
theorem kl_V_leavesCallUnanswered_2 {Q : Int32 → RS → Prop} (X : Cx p l R s m args meth c b_V_leavesCallUnanswered 3 R_V (some .boolean) D clV (tyV q) a 101 1 22 tbW) : ∀ (n : Nat) (h : RS) (i1 : Nat) (x2 : Int32), i1 < 8 → wp_V_leavesCallUnanswered_2 Q n h i1 x2 → Z p l e R s m args below meth c D clV 101 a (ceV a q) 3 (MQ below (va_Qi Q (AtC D clV 101 a (ceV a q)) (inW a 101)) args s 0 0 (inW a 101)) h 2 [(0, .ref (a 0)), (1, .ref (a (29 + i1))), (2, .int x2)] [] := by
  intro n
  induction n with
  | zero =>
    intro h i1 x2 hi1 hw
    exact hw.elim
  | succ n ih =>
    intro h i1 x2 hi1 hw
    exact kb_V_leavesCallUnanswered_2 X ih hi1 hw
set_option maxHeartbeats 4000000 in
set_option maxRecDepth 100000 in
theorem kb_V_leavesCallUnanswered_0 {Q : Int32 → RS → Prop} (X : Cx p l R s m args meth c b_V_leavesCallUnanswered 3 R_V (some .boolean) D clV (tyV q) a 101 1 22 tbW) {h : RS} {i1 : Nat} (hi1 : i1 < 8) (hw : bp_V_leavesCallUnanswered_0 Q h i1) : Z p l e R s m args below meth c D clV 101 a (ceV a q) 3 (MQ below (va_Qi Q (AtC D clV 101 a (ceV a q)) (inW a 101)) args s 0 0 (inW a 101)) h 0 [(0, .ref (a 0)), (1, .ref (a (29 + i1)))] [] := by
  unfold bp_V_leavesCallUnanswered_0 at hw
  refine z_iconst (v := (0 : Int32)) (pc := 0) X d_V_leavesCallUnanswered_0 (by decide) ?_
  refine z_istore_n (pc := 1) X d_V_leavesCallUnanswered_1 rfl (by decide) rfl ?_
  obtain ⟨n5, hw⟩ := hw
  exact z_to [1, 2, 0] rfl (kl_V_leavesCallUnanswered_2 X n5 _ _ _ hi1 hw)
theorem c_V_leavesCallUnanswered {l : Launch} {D : va_G} {a : Nat → Nat} {q : Nat → ClassId} (hI : injW a 101) {h : RS} {i1 : Nat} (hi1 : i1 < 8) {Q : Int32 → RS → Prop} (hw : wp_V_leavesCallUnanswered h i1 Q) : Met l y_V_leavesCallUnanswered [.code y_V_leavesCallUnanswered b_V_leavesCallUnanswered 3 (some .boolean)] { frames := 1, cells := 0, slots := 0, locals := 22 } (va_Pc [.ref (a 0), .ref (a (29 + i1))] (PreC tbW D clV (tyV q) 101 a (ceV a q) h)) (va_Qi Q (AtC D clV 101 a (ceV a q)) (inW a 101)) 0 0 (inW a 101) :=
  m_of (by decide +kernel) hI tb_ok (Nat.le_of_ble_eq_true rfl) (fun p e R s m below meth c X => kb_V_leavesCallUnanswered_0 X hi1 hw)
set_option maxHeartbeats 4000000 in
set_option maxRecDepth 100000 in
theorem kb_V_obstacleToSealing_50 {Q : Int32 → RS → Prop} (X : Cx p l R s m args meth c b_V_obstacleToSealing 2 R_V (some .int) D clV (tyV q) a 101 2 44 tbW) {K50 : RS → Int32 → Prop} (hK50 : ∀ (h : RS) (x1 : Int32), K50 h x1 → Z p l e R s m args below meth c D clV 101 a (ceV a q) 2 (MQ below (va_Qi Q (AtC D clV 101 a (ceV a q)) (inW a 101)) args s 0 0 (inW a 101)) h 50 [(0, .ref (a 0)), (1, .int x1)] []) {h : RS} {x1 : Int32} (hw : bp_V_obstacleToSealing_50 K50 Q h x1) : Z p l e R s m args below meth c D clV 101 a (ceV a q) 2 (MQ below (va_Qi Q (AtC D clV 101 a (ceV a q)) (inW a 101)) args s 0 0 (inW a 101)) h 50 [(0, .ref (a 0)), (1, .int x1)] [] := by
  unfold bp_V_obstacleToSealing_50 at hw
  refine z_iload_n (pc := 50) X 1 d_V_obstacleToSealing_50 rfl rfl ?_
  refine z_aload_n (pc := 51) X 0 d_V_obstacleToSealing_51 rfl rfl ?_
  refine z_get (i := 0) (pc := 52) X (by decide) (cV_V _) rfl hin_V 3 (by decide) lk5 rfl rfl d_V_obstacleToSealing_52 ?_
  refine z_icmp_ge (tgt := 79) (pc := 55) X d_V_obstacleToSealing_55 (by decide) (fun hc => ?_) (fun hc => ?_)
  · have hw := hw.1 hc
    refine z_iconst (v := (0 : Int32)) (pc := 79) X d_V_obstacleToSealing_79 (by decide) ?_
    exact z_iret (pc := 80) X d_V_obstacleToSealing_80 hw
  · have hw := hw.2 hc
    refine z_aload_n (pc := 58) X 0 d_V_obstacleToSealing_58 rfl rfl ?_
    refine z_aload_n (pc := 59) X 0 d_V_obstacleToSealing_59 rfl rfl ?_
    refine z_get (i := 0) (pc := 60) X (by decide) (cV_V _) rfl hin_V 2 (by decide) lk19 rfl rfl d_V_obstacleToSealing_60 ?_
    refine z_iload_n (pc := 63) X 1 d_V_obstacleToSealing_63 rfl rfl ?_
    obtain ⟨k1, hk1, ek1, hw⟩ := hw
    refine z_aald (i := 2) (g := fun j => 29 + j) (pc := 64) X 3 (by decide) (cV_Res _) rfl (by decide) hk1 ek1 d_V_obstacleToSealing_64 ?_
    refine z_cVi (i := 0) (pc := 65) X [.ref (a (29 + k1))] (c_V_leavesCallUnanswered X.2.2.2.2.2.2.2.2.1 hk1 hw) (by decide) (by decide) lk51 cd_V_leavesCallUnanswered lk11 lk52 lk53 (by decide) (cV_V _) rfl nm_V_leavesCallUnanswered rfl rfl (Nat.le_of_ble_eq_true rfl) d_V_obstacleToSealing_65 (fun r2 h3 hw => ?_)
    refine z_if_eq (tgt := 73) (pc := 68) X d_V_obstacleToSealing_68 (by decide) (fun hc => ?_) (fun hc => ?_)
    · have hw := hw.1 hc
      refine z_iinc (v := (x1 + 1)) (pc := 73) X 1 d_V_obstacleToSealing_73 rfl rfl (by decide) rfl ?_
      refine z_goto (tgt := 50) (pc := 76) X d_V_obstacleToSealing_76 (by decide) ?_
      exact z_to [1, 0] rfl (hK50 _ _ hw)
    · have hw := hw.2 hc
      refine z_iconst (v := (4 : Int32)) (pc := 71) X d_V_obstacleToSealing_71 (by decide) ?_
      exact z_iret (pc := 72) X d_V_obstacleToSealing_72 hw
theorem kl_V_obstacleToSealing_50 {Q : Int32 → RS → Prop} (X : Cx p l R s m args meth c b_V_obstacleToSealing 2 R_V (some .int) D clV (tyV q) a 101 2 44 tbW) : ∀ (n : Nat) (h : RS) (x1 : Int32), wp_V_obstacleToSealing_50 Q n h x1 → Z p l e R s m args below meth c D clV 101 a (ceV a q) 2 (MQ below (va_Qi Q (AtC D clV 101 a (ceV a q)) (inW a 101)) args s 0 0 (inW a 101)) h 50 [(0, .ref (a 0)), (1, .int x1)] [] := by
  intro n
  induction n with
  | zero =>
    intro h x1 hw
    exact hw.elim
  | succ n ih =>
    intro h x1 hw
    exact kb_V_obstacleToSealing_50 X ih hw
set_option maxHeartbeats 4000000 in
set_option maxRecDepth 100000 in
theorem kb_V_obstacleToSealing_20 {Q : Int32 → RS → Prop} (X : Cx p l R s m args meth c b_V_obstacleToSealing 2 R_V (some .int) D clV (tyV q) a 101 2 44 tbW) {K20 : RS → Int32 → Prop} (hK20 : ∀ (h : RS) (x1 : Int32), K20 h x1 → Z p l e R s m args below meth c D clV 101 a (ceV a q) 2 (MQ below (va_Qi Q (AtC D clV 101 a (ceV a q)) (inW a 101)) args s 0 0 (inW a 101)) h 20 [(0, .ref (a 0)), (1, .int x1)] []) {h : RS} {x1 : Int32} (hw : bp_V_obstacleToSealing_20 K20 Q h x1) : Z p l e R s m args below meth c D clV 101 a (ceV a q) 2 (MQ below (va_Qi Q (AtC D clV 101 a (ceV a q)) (inW a 101)) args s 0 0 (inW a 101)) h 20 [(0, .ref (a 0)), (1, .int x1)] [] := by
  unfold bp_V_obstacleToSealing_20 at hw
  refine z_iload_n (pc := 20) X 1 d_V_obstacleToSealing_20 rfl rfl ?_
  refine z_aload_n (pc := 21) X 0 d_V_obstacleToSealing_21 rfl rfl ?_
  refine z_get (i := 0) (pc := 22) X (by decide) (cV_V _) rfl hin_V 3 (by decide) lk5 rfl rfl d_V_obstacleToSealing_22 ?_
  refine z_icmp_ge (tgt := 48) (pc := 25) X d_V_obstacleToSealing_25 (by decide) (fun hc => ?_) (fun hc => ?_)
  · have hw := hw.1 hc
    refine z_iconst (v := (0 : Int32)) (pc := 48) X d_V_obstacleToSealing_48 (by decide) ?_
    refine z_istore_n (pc := 49) X d_V_obstacleToSealing_49 rfl (by decide) rfl ?_
    obtain ⟨n4, hw⟩ := hw
    exact z_to [1, 0] rfl (kl_V_obstacleToSealing_50 X n4 _ _ hw)
  · have hw := hw.2 hc
    refine z_aload_n (pc := 28) X 0 d_V_obstacleToSealing_28 rfl rfl ?_
    refine z_get (i := 0) (pc := 29) X (by decide) (cV_V _) rfl hin_V 2 (by decide) lk19 rfl rfl d_V_obstacleToSealing_29 ?_
    refine z_iload_n (pc := 32) X 1 d_V_obstacleToSealing_32 rfl rfl ?_
    obtain ⟨k5, hk5, ek5, hw⟩ := hw
    refine z_aald (i := 2) (g := fun j => 29 + j) (pc := 33) X 3 (by decide) (cV_Res _) rfl (by decide) hk5 ek5 d_V_obstacleToSealing_33 ?_
    refine z_getN (i := (29 + k5)) (pc := 34) X (lt_ix hk5 (by decide)) (cV_Re _ hk5) rfl hin_Re 0 (by decide) lk20 rfl rfl d_V_obstacleToSealing_34 ?_
    refine z_if_ne (tgt := 42) (pc := 37) X d_V_obstacleToSealing_37 (by decide) (fun hc => ?_) (fun hc => ?_)
    · have hw := hw.1 hc
      refine z_iinc (v := (x1 + 1)) (pc := 42) X 1 d_V_obstacleToSealing_42 rfl rfl (by decide) rfl ?_
      refine z_goto (tgt := 20) (pc := 45) X d_V_obstacleToSealing_45 (by decide) ?_
      exact z_to [1, 0] rfl (hK20 _ _ hw)
    · have hw := hw.2 hc
      refine z_iconst (v := (3 : Int32)) (pc := 40) X d_V_obstacleToSealing_40 (by decide) ?_
      exact z_iret (pc := 41) X d_V_obstacleToSealing_41 hw
theorem kl_V_obstacleToSealing_20 {Q : Int32 → RS → Prop} (X : Cx p l R s m args meth c b_V_obstacleToSealing 2 R_V (some .int) D clV (tyV q) a 101 2 44 tbW) : ∀ (n : Nat) (h : RS) (x1 : Int32), wp_V_obstacleToSealing_20 Q n h x1 → Z p l e R s m args below meth c D clV 101 a (ceV a q) 2 (MQ below (va_Qi Q (AtC D clV 101 a (ceV a q)) (inW a 101)) args s 0 0 (inW a 101)) h 20 [(0, .ref (a 0)), (1, .int x1)] [] := by
  intro n
  induction n with
  | zero =>
    intro h x1 hw
    exact hw.elim
  | succ n ih =>
    intro h x1 hw
    exact kb_V_obstacleToSealing_20 X ih hw
set_option maxHeartbeats 4000000 in
set_option maxRecDepth 100000 in
theorem kb_V_obstacleToSealing_0 {Q : Int32 → RS → Prop} (X : Cx p l R s m args meth c b_V_obstacleToSealing 2 R_V (some .int) D clV (tyV q) a 101 2 44 tbW) {h : RS} (hw : bp_V_obstacleToSealing_0 Q h) : Z p l e R s m args below meth c D clV 101 a (ceV a q) 2 (MQ below (va_Qi Q (AtC D clV 101 a (ceV a q)) (inW a 101)) args s 0 0 (inW a 101)) h 0 [(0, .ref (a 0))] [] := by
  unfold bp_V_obstacleToSealing_0 at hw
  refine z_aload_n (pc := 0) X 0 d_V_obstacleToSealing_0 rfl rfl ?_
  refine z_get (i := 0) (pc := 1) X (by decide) (cV_V _) rfl hin_V 4 (by decide) lk1 rfl rfl d_V_obstacleToSealing_1 ?_
  refine z_if_eq (tgt := 9) (pc := 4) X d_V_obstacleToSealing_4 (by decide) (fun hc => ?_) (fun hc => ?_)
  · have hw := hw.1 hc
    refine z_aload_n (pc := 9) X 0 d_V_obstacleToSealing_9 rfl rfl ?_
    refine z_get (i := 0) (pc := 10) X (by decide) (cV_V _) rfl hin_V 3 (by decide) lk5 rfl rfl d_V_obstacleToSealing_10 ?_
    refine z_if_ne (tgt := 18) (pc := 13) X d_V_obstacleToSealing_13 (by decide) (fun hc => ?_) (fun hc => ?_)
    · have hw := hw.1 hc
      refine z_iconst (v := (0 : Int32)) (pc := 18) X d_V_obstacleToSealing_18 (by decide) ?_
      refine z_istore_n (pc := 19) X d_V_obstacleToSealing_19 rfl (by decide) rfl ?_
      obtain ⟨n6, hw⟩ := hw
      exact z_to [1, 0] rfl (kl_V_obstacleToSealing_20 X n6 _ _ hw)
    · have hw := hw.2 hc
      refine z_iconst (v := (2 : Int32)) (pc := 16) X d_V_obstacleToSealing_16 (by decide) ?_
      exact z_iret (pc := 17) X d_V_obstacleToSealing_17 hw
  · have hw := hw.2 hc
    refine z_iconst (v := (1 : Int32)) (pc := 7) X d_V_obstacleToSealing_7 (by decide) ?_
    exact z_iret (pc := 8) X d_V_obstacleToSealing_8 hw
theorem c_V_obstacleToSealing {l : Launch} {D : va_G} {a : Nat → Nat} {q : Nat → ClassId} (hI : injW a 101) {h : RS} {Q : Int32 → RS → Prop} (hw : wp_V_obstacleToSealing h Q) : Met l y_V_obstacleToSealing [.code y_V_obstacleToSealing b_V_obstacleToSealing 2 (some .int)] { frames := 2, cells := 0, slots := 0, locals := 44 } (va_Pc [.ref (a 0)] (PreC tbW D clV (tyV q) 101 a (ceV a q) h)) (va_Qi Q (AtC D clV 101 a (ceV a q)) (inW a 101)) 0 0 (inW a 101) :=
  m_of (by decide +kernel) hI tb_ok (Nat.le_of_ble_eq_true rfl) (fun p e R s m below meth c X => kb_V_obstacleToSealing_0 X hw)
set_option maxHeartbeats 4000000 in
set_option maxRecDepth 100000 in
theorem kb_V_seal_0 {Q : Int32 → RS → Prop} (X : Cx p l R s m args meth c b_V_seal 2 R_V (some .int) D clV (tyV q) a 101 3 65 tbW) {h : RS} (hw : bp_V_seal_0 Q h) : Z p l e R s m args below meth c D clV 101 a (ceV a q) 2 (MQ below (va_Qi Q (AtC D clV 101 a (ceV a q)) (inW a 101)) args s 0 0 (inW a 101)) h 0 [(0, .ref (a 0))] [] := by
  unfold bp_V_seal_0 at hw
  refine z_aload_n (pc := 0) X 0 d_V_seal_0 rfl rfl ?_
  refine z_cVi (i := 0) (pc := 1) X [] (c_V_obstacleToSealing X.2.2.2.2.2.2.2.2.1 hw) (by decide) (by decide) lk54 cd_V_obstacleToSealing lk11 lk55 lk56 (by decide) (cV_V _) rfl nm_V_obstacleToSealing rfl rfl (Nat.le_of_ble_eq_true rfl) d_V_seal_1 (fun r1 h2 hw => ?_)
  refine z_istore_n (pc := 4) X d_V_seal_4 rfl (by decide) rfl ?_
  refine z_iload_n (pc := 5) X 0 d_V_seal_5 rfl rfl ?_
  refine z_if_ne (tgt := 14) (pc := 6) X d_V_seal_6 (by decide) (fun hc => ?_) (fun hc => ?_)
  · have hw := hw.1 hc
    refine z_iload_n (pc := 14) X 0 d_V_seal_14 rfl rfl ?_
    exact z_iret (pc := 15) X d_V_seal_15 hw
  · have hw := hw.2 hc
    refine z_aload_n (pc := 9) X 1 d_V_seal_9 rfl rfl ?_
    refine z_iconst (v := (1 : Int32)) (pc := 10) X d_V_seal_10 (by decide) ?_
    obtain ⟨hB, hw⟩ := hw
    refine z_put (i := 0) (pc := 11) X (by decide) (cV_V _) rfl hin_V t_V t_V_ok n_V 4 (by decide) lk1 rfl rfl (t_V_ok 4 (by decide)) (isB_n hB) (isB_f hB) (Nat.le_of_ble_eq_true rfl) (cV_V _) d_V_seal_11 ?_
    have hw := hw _ rfl
    refine z_iload_n (pc := 14) X 0 d_V_seal_14 rfl rfl ?_
    exact z_iret (pc := 15) X d_V_seal_15 hw
theorem c_V_seal {l : Launch} {D : va_G} {a : Nat → Nat} {q : Nat → ClassId} (hI : injW a 101) {h : RS} {Q : Int32 → RS → Prop} (hw : wp_V_seal h Q) : Met l y_V_seal [.code y_V_seal b_V_seal 2 (some .int)] { frames := 3, cells := 0, slots := 0, locals := 65 } (va_Pc [.ref (a 0)] (PreC tbW D clV (tyV q) 101 a (ceV a q) h)) (va_Qi Q (AtC D clV 101 a (ceV a q)) (inW a 101)) 0 0 (inW a 101) :=
  m_of (by decide +kernel) hI tb_ok (Nat.le_of_ble_eq_true rfl) (fun p e R s m below meth c X => kb_V_seal_0 X hw)
set_option maxHeartbeats 4000000 in
set_option maxRecDepth 100000 in
theorem kb_Ms_add_0 {Q : Int32 → RS → Prop} (X : Cx p l R s m args meth c b_Ms_add 4 R_Ms (some .int) D clV (tyV q) a 101 0 0 tbW) {h : RS} {x1 : Int32} {x2 : Int32} (hw : bp_Ms_add_0 Q h x1 x2) : Z p l e R s m args below meth c D clV 101 a (ceV a q) 4 (MQ below (va_Qi Q (AtC D clV 101 a (ceV a q)) (inW a 101)) args s 0 0 (inW a 101)) h 0 [(0, .ref (a 3)), (1, .int x1), (2, .int x2)] [] := by
  unfold bp_Ms_add_0 at hw
  refine z_aload_n (pc := 0) X 0 d_Ms_add_0 rfl rfl ?_
  refine z_get (i := 3) (pc := 1) X (by decide) (cV_Msgs _) rfl hin_Ms 0 (by decide) lk57 rfl rfl d_Ms_add_1 ?_
  refine z_istore_n (pc := 4) X d_Ms_add_4 rfl (by decide) rfl ?_
  refine z_aload_n (pc := 5) X 1 d_Ms_add_5 rfl rfl ?_
  refine z_get (i := 3) (pc := 6) X (by decide) (cV_Msgs _) rfl hin_Ms 1 (by decide) lk58 rfl rfl d_Ms_add_6 ?_
  refine z_iload_n (pc := 9) X 0 d_Ms_add_9 rfl rfl ?_
  refine z_iload_n (pc := 10) X 2 d_Ms_add_10 rfl rfl ?_
  obtain ⟨k1, hk1, ek1, hw⟩ := hw
  refine z_iast (i := 6) (pc := 11) X 0 (by decide) (fun g => (cV_mCh g)) rfl (by decide) hk1 ek1 d_Ms_add_11 ?_
  have hw := hw _ rfl
  refine z_aload_n (pc := 12) X 1 d_Ms_add_12 rfl rfl ?_
  refine z_get (i := 3) (pc := 13) X (by decide) (cV_Msgs _) rfl hin_Ms 2 (by decide) lk59 rfl rfl d_Ms_add_13 ?_
  refine z_iload_n (pc := 16) X 0 d_Ms_add_16 rfl rfl ?_
  refine z_iload_n (pc := 17) X 3 d_Ms_add_17 rfl rfl ?_
  obtain ⟨k3, hk3, ek3, hw⟩ := hw
  refine z_iast (i := 7) (pc := 18) X 0 (by decide) (fun g => (cV_mVa g)) rfl (by decide) hk3 ek3 d_Ms_add_18 ?_
  have hw := hw _ rfl
  refine z_aload_n (pc := 19) X 1 d_Ms_add_19 rfl rfl ?_
  refine z_get (i := 3) (pc := 20) X (by decide) (cV_Msgs _) rfl hin_Ms 3 (by decide) lk60 rfl rfl d_Ms_add_20 ?_
  refine z_iload_n (pc := 23) X 0 d_Ms_add_23 rfl rfl ?_
  refine z_iconst (v := (1 : Int32)) (pc := 24) X d_Ms_add_24 (by decide) ?_
  obtain ⟨k5, hk5, ek5, hw⟩ := hw
  refine z_iast (i := 8) (pc := 25) X 0 (by decide) (fun g => (cV_mSt g)) rfl (by decide) hk5 ek5 d_Ms_add_25 ?_
  have hw := hw _ rfl
  refine z_aload_n (pc := 26) X 1 d_Ms_add_26 rfl rfl ?_
  refine z_get (i := 3) (pc := 27) X (by decide) (cV_Msgs _) rfl hin_Ms 4 (by decide) lk61 rfl rfl d_Ms_add_27 ?_
  refine z_iload_n (pc := 30) X 0 d_Ms_add_30 rfl rfl ?_
  refine z_iconst (v := (-1 : Int32)) (pc := 31) X d_Ms_add_31 (by decide) ?_
  obtain ⟨k7, hk7, ek7, hw⟩ := hw
  refine z_iast (i := 9) (pc := 32) X 0 (by decide) (fun g => (cV_mCo g)) rfl (by decide) hk7 ek7 d_Ms_add_32 ?_
  have hw := hw _ rfl
  refine z_aload_n (pc := 33) X 1 d_Ms_add_33 rfl rfl ?_
  refine z_dup (pc := 34) X d_Ms_add_34 rfl ?_
  refine z_get (i := 3) (pc := 35) X (by decide) (cV_Msgs _) rfl hin_Ms 0 (by decide) lk57 rfl rfl d_Ms_add_35 ?_
  refine z_iconst (v := (1 : Int32)) (pc := 38) X d_Ms_add_38 (by decide) ?_
  refine z_iadd (pc := 39) X d_Ms_add_39 ?_
  refine z_put (i := 3) (pc := 40) X (by decide) (cV_Msgs _) rfl hin_Ms t_Ms t_Ms_ok n_Ms 0 (by decide) lk57 rfl rfl (t_Ms_ok 0 (by decide)) rfl rfl (Nat.le_of_ble_eq_true rfl) (cV_Msgs _) d_Ms_add_40 ?_
  have hw := hw _ rfl
  refine z_iload_n (pc := 43) X 0 d_Ms_add_43 rfl rfl ?_
  exact z_iret (pc := 44) X d_Ms_add_44 hw
theorem c_Ms_add {l : Launch} {D : va_G} {a : Nat → Nat} {q : Nat → ClassId} (hI : injW a 101) {h : RS} {x1 : Int32} {x2 : Int32} {Q : Int32 → RS → Prop} (hw : wp_Ms_add h x1 x2 Q) : Met l y_Ms_add [.code y_Ms_add b_Ms_add 4 (some .int)] { frames := 0, cells := 0, slots := 0, locals := 0 } (va_Pc [.ref (a 3), .int x1, .int x2] (PreC tbW D clV (tyV q) 101 a (ceV a q) h)) (va_Qi Q (AtC D clV 101 a (ceV a q)) (inW a 101)) 0 0 (inW a 101) :=
  m_of (by decide +kernel) hI tb_ok (Nat.le_of_ble_eq_true rfl) (fun p e R s m below meth c X => kb_Ms_add_0 X hw)
set_option maxHeartbeats 4000000 in
set_option maxRecDepth 100000 in
theorem kb_Ch_addPending_0 {Q : RS → Prop} (X : Cx p l R s m args meth c b_Ch_addPending 2 R_Ch none D clV (tyV q) a 101 0 0 tbW) {h : RS} {i0 : Nat} {x1 : Int32} (hi0 : i0 < 8) (hw : bp_Ch_addPending_0 Q h i0 x1) : Z p l e R s m args below meth c D clV 101 a (ceV a q) 2 (MQ below (va_Qv Q (AtC D clV 101 a (ceV a q)) (inW a 101)) args s 0 0 (inW a 101)) h 0 [(0, .ref (a (13 + i0))), (1, .int x1)] [] := by
  unfold bp_Ch_addPending_0 at hw
  refine z_aload_n (pc := 0) X 0 d_Ch_addPending_0 rfl rfl ?_
  refine z_get (i := (13 + i0)) (pc := 1) X (lt_ix hi0 (by decide)) (cV_Ch _ hi0) rfl hin_Ch 1 (by decide) lk62 rfl rfl d_Ch_addPending_1 ?_
  refine z_aload_n (pc := 4) X 0 d_Ch_addPending_4 rfl rfl ?_
  refine z_get (i := (13 + i0)) (pc := 5) X (lt_ix hi0 (by decide)) (cV_Ch _ hi0) rfl hin_Ch 2 (by decide) lk63 rfl rfl d_Ch_addPending_5 ?_
  refine z_iload_n (pc := 8) X 1 d_Ch_addPending_8 rfl rfl ?_
  obtain ⟨k1, hk1, ek1, hw⟩ := hw
  refine z_iast (i := (21 + i0)) (pc := 9) X 0 (lt_ix hi0 (by decide)) (fun g => (cV_Pn g hi0)) rfl (by decide) hk1 ek1 d_Ch_addPending_9 ?_
  have hw := hw _ rfl
  refine z_aload_n (pc := 10) X 0 d_Ch_addPending_10 rfl rfl ?_
  refine z_dup (pc := 11) X d_Ch_addPending_11 rfl ?_
  refine z_get (i := (13 + i0)) (pc := 12) X (lt_ix hi0 (by decide)) (cV_Ch _ hi0) rfl hin_Ch 2 (by decide) lk63 rfl rfl d_Ch_addPending_12 ?_
  refine z_iconst (v := (1 : Int32)) (pc := 15) X d_Ch_addPending_15 (by decide) ?_
  refine z_iadd (pc := 16) X d_Ch_addPending_16 ?_
  refine z_put (i := (13 + i0)) (pc := 17) X (lt_ix hi0 (by decide)) (cV_Ch _ hi0) rfl hin_Ch t_Ch t_Ch_ok n_Ch 2 (by decide) lk63 rfl rfl (t_Ch_ok 2 (by decide)) rfl rfl (Nat.le_of_ble_eq_true rfl) (cV_Ch _ hi0) d_Ch_addPending_17 ?_
  have hw := hw _ rfl
  exact z_vret (pc := 20) X d_Ch_addPending_20 hw
theorem c_Ch_addPending {l : Launch} {D : va_G} {a : Nat → Nat} {q : Nat → ClassId} (hI : injW a 101) {h : RS} {i0 : Nat} {x1 : Int32} (hi0 : i0 < 8) {Q : RS → Prop} (hw : wp_Ch_addPending h i0 x1 Q) : Met l y_Ch_addPending [.code y_Ch_addPending b_Ch_addPending 2 none] { frames := 0, cells := 0, slots := 0, locals := 0 } (va_Pc [.ref (a (13 + i0)), .int x1] (PreC tbW D clV (tyV q) 101 a (ceV a q) h)) (va_Qv Q (AtC D clV 101 a (ceV a q)) (inW a 101)) 0 0 (inW a 101) :=
  m_of (by decide +kernel) hI tb_ok (Nat.le_of_ble_eq_true rfl) (fun p e R s m below meth c X => kb_Ch_addPending_0 X hi0 hw)
set_option maxHeartbeats 4000000 in
set_option maxRecDepth 100000 in
theorem kb_V_makeMessage_0 {Q : Int32 → RS → Prop} (X : Cx p l R s m args meth c b_V_makeMessage 4 R_V (some .int) D clV (tyV q) a 101 1 23 tbW) {h : RS} {x1 : Int32} {x2 : Int32} (hw : bp_V_makeMessage_0 Q h x1 x2) : Z p l e R s m args below meth c D clV 101 a (ceV a q) 4 (MQ below (va_Qi Q (AtC D clV 101 a (ceV a q)) (inW a 101)) args s 0 0 (inW a 101)) h 0 [(0, .ref (a 0)), (1, .int x1), (2, .int x2)] [] := by
  unfold bp_V_makeMessage_0 at hw
  refine z_aload_n (pc := 0) X 0 d_V_makeMessage_0 rfl rfl ?_
  refine z_get (i := 0) (pc := 1) X (by decide) (cV_V _) rfl hin_V 5 (by decide) lk64 rfl rfl d_V_makeMessage_1 ?_
  refine z_iload_n (pc := 4) X 1 d_V_makeMessage_4 rfl rfl ?_
  refine z_iload_n (pc := 5) X 2 d_V_makeMessage_5 rfl rfl ?_
  refine z_cVNi (i := 3) (pc := 6) X [.int _, .int _] (c_Ms_add X.2.2.2.2.2.2.2.2.1 hw) (by decide) (by decide) lk65 cd_Ms_add lk66 lk67 lk68 (by decide) (cV_Msgs _) rfl nm_Ms_add rfl rfl (Nat.le_of_ble_eq_true rfl) d_V_makeMessage_6 (fun r1 h2 hw => ?_)
  refine z_istore_n (pc := 9) X d_V_makeMessage_9 rfl (by decide) rfl ?_
  refine z_aload_n (pc := 10) X 1 d_V_makeMessage_10 rfl rfl ?_
  refine z_get (i := 0) (pc := 11) X (by decide) (cV_V _) rfl hin_V 0 (by decide) lk3 rfl rfl d_V_makeMessage_11 ?_
  refine z_iload_n (pc := 14) X 2 d_V_makeMessage_14 rfl rfl ?_
  obtain ⟨k3, hk3, ek3, hw⟩ := hw
  refine z_aald (i := 1) (g := fun j => 13 + j) (pc := 15) X 2 (by decide) (cV_Chs _) rfl (by decide) hk3 ek3 d_V_makeMessage_15 ?_
  refine z_iload_n (pc := 16) X 0 d_V_makeMessage_16 rfl rfl ?_
  refine z_cVNv (i := (13 + k3)) (pc := 17) X [.int _] (c_Ch_addPending X.2.2.2.2.2.2.2.2.1 hk3 hw) (by decide) (by decide) lk69 cd_Ch_addPending lk70 lk71 lk72 (lt_ix hk3 (by decide)) (cV_Ch _ hk3) rfl nm_Ch_addPending rfl rfl (Nat.le_of_ble_eq_true rfl) d_V_makeMessage_17 (fun h4 hw => ?_)
  refine z_iload_n (pc := 20) X 0 d_V_makeMessage_20 rfl rfl ?_
  exact z_iret (pc := 21) X d_V_makeMessage_21 hw
theorem c_V_makeMessage {l : Launch} {D : va_G} {a : Nat → Nat} {q : Nat → ClassId} (hI : injW a 101) {h : RS} {x1 : Int32} {x2 : Int32} {Q : Int32 → RS → Prop} (hw : wp_V_makeMessage h x1 x2 Q) : Met l y_V_makeMessage [.code y_V_makeMessage b_V_makeMessage 4 (some .int)] { frames := 1, cells := 0, slots := 0, locals := 23 } (va_Pc [.ref (a 0), .int x1, .int x2] (PreC tbW D clV (tyV q) 101 a (ceV a q) h)) (va_Qi Q (AtC D clV 101 a (ceV a q)) (inW a 101)) 0 0 (inW a 101) :=
  m_of (by decide +kernel) hI tb_ok (Nat.le_of_ble_eq_true rfl) (fun p e R s m below meth c X => kb_V_makeMessage_0 X hw)
set_option maxHeartbeats 4000000 in
set_option maxRecDepth 100000 in
theorem kb_V_admit_0 {Q : Int32 → RS → Prop} (X : Cx p l R s m args meth c b_V_admit 4 R_V (some .int) D clV (tyV q) a 101 2 46 tbW) {h : RS} {x1 : Int32} {x2 : Int32} {x3 : Int32} (hw : bp_V_admit_0 Q h x1 x2 x3) : Z p l e R s m args below meth c D clV 101 a (ceV a q) 4 (MQ below (va_Qi Q (AtC D clV 101 a (ceV a q)) (inW a 101)) args s 0 0 (inW a 101)) h 0 [(0, .ref (a 0)), (1, .int x1), (2, .int x2), (3, .int x3)] [] := by
  unfold bp_V_admit_0 at hw
  refine z_aload_n (pc := 0) X 0 d_V_admit_0 rfl rfl ?_
  refine z_get (i := 0) (pc := 1) X (by decide) (cV_V _) rfl hin_V 4 (by decide) lk1 rfl rfl d_V_admit_1 ?_
  refine z_if_eq (tgt := 16) (pc := 4) X d_V_admit_4 (by decide) (fun hc => ?_) (fun hc => ?_)
  · have hw := hw.1 hc
    refine z_iconst (v := (-1 : Int32)) (pc := 16) X d_V_admit_16 (by decide) ?_
    exact z_iret (pc := 17) X d_V_admit_17 hw
  · have hw := hw.2 hc
    refine z_aload_n (pc := 7) X 0 d_V_admit_7 rfl rfl ?_
    refine z_iload_n (pc := 8) X 1 d_V_admit_8 rfl rfl ?_
    refine z_iload_n (pc := 9) X 3 d_V_admit_9 rfl rfl ?_
    refine z_cVi (i := 0) (pc := 10) X [.int _, .int _] (c_V_isChannelOf X.2.2.2.2.2.2.2.2.1 hw) (by decide) (by decide) lk37 cd_V_isChannelOf lk11 lk38 lk39 (by decide) (cV_V _) rfl nm_V_isChannelOf rfl rfl (Nat.le_of_ble_eq_true rfl) d_V_admit_10 (fun r1 h2 hw => ?_)
    refine z_if_ne (tgt := 18) (pc := 13) X d_V_admit_13 (by decide) (fun hc => ?_) (fun hc => ?_)
    · have hw := hw.1 hc
      refine z_aload_n (pc := 18) X 0 d_V_admit_18 rfl rfl ?_
      refine z_get (i := 0) (pc := 19) X (by decide) (cV_V _) rfl hin_V 0 (by decide) lk3 rfl rfl d_V_admit_19 ?_
      refine z_iload_n (pc := 22) X 1 d_V_admit_22 rfl rfl ?_
      obtain ⟨k3, hk3, ek3, hw⟩ := hw
      refine z_aald (i := 1) (g := fun j => 13 + j) (pc := 23) X 2 (by decide) (cV_Chs _) rfl (by decide) hk3 ek3 d_V_admit_23 ?_
      refine z_getN (i := (13 + k3)) (pc := 24) X (lt_ix hk3 (by decide)) (cV_Ch _ hk3) rfl hin_Ch 2 (by decide) lk73 rfl rfl d_V_admit_24 ?_
      refine z_bipush (v := (6 : Int32)) (pc := 27) X d_V_admit_27 (by decide) ?_
      refine z_icmp_ge (tgt := 45) (pc := 29) X d_V_admit_29 (by decide) (fun hc => ?_) (fun hc => ?_)
      · have hw := hw.1 hc
        refine z_iconst (v := (-1 : Int32)) (pc := 45) X d_V_admit_45 (by decide) ?_
        exact z_iret (pc := 46) X d_V_admit_46 hw
      · have hw := hw.2 hc
        refine z_aload_n (pc := 32) X 0 d_V_admit_32 rfl rfl ?_
        refine z_get (i := 0) (pc := 33) X (by decide) (cV_V _) rfl hin_V 5 (by decide) lk64 rfl rfl d_V_admit_33 ?_
        refine z_getN (i := 3) (pc := 36) X (by decide) (cV_Msgs _) rfl hin_Ms 0 (by decide) lk74 rfl rfl d_V_admit_36 ?_
        refine z_sipush (v := (300 : Int32)) (pc := 39) X d_V_admit_39 (by decide) ?_
        refine z_icmp_lt (tgt := 47) (pc := 42) X d_V_admit_42 (by decide) (fun hc => ?_) (fun hc => ?_)
        · have hw := hw.1 hc
          refine z_aload_n (pc := 47) X 0 d_V_admit_47 rfl rfl ?_
          refine z_iload_n (pc := 48) X 1 d_V_admit_48 rfl rfl ?_
          refine z_iload_n (pc := 49) X 2 d_V_admit_49 rfl rfl ?_
          refine z_cVi (i := 0) (pc := 50) X [.int _, .int _] (c_V_makeMessage X.2.2.2.2.2.2.2.2.1 hw) (by decide) (by decide) lk75 cd_V_makeMessage lk11 lk76 lk77 (by decide) (cV_V _) rfl nm_V_makeMessage rfl rfl (Nat.le_of_ble_eq_true rfl) d_V_admit_50 (fun r4 h5 hw => ?_)
          exact z_iret (pc := 53) X d_V_admit_53 hw
        · have hw := hw.2 hc
          refine z_iconst (v := (-1 : Int32)) (pc := 45) X d_V_admit_45 (by decide) ?_
          exact z_iret (pc := 46) X d_V_admit_46 hw
    · have hw := hw.2 hc
      refine z_iconst (v := (-1 : Int32)) (pc := 16) X d_V_admit_16 (by decide) ?_
      exact z_iret (pc := 17) X d_V_admit_17 hw
theorem c_V_admit {l : Launch} {D : va_G} {a : Nat → Nat} {q : Nat → ClassId} (hI : injW a 101) {h : RS} {x1 : Int32} {x2 : Int32} {x3 : Int32} {Q : Int32 → RS → Prop} (hw : wp_V_admit h x1 x2 x3 Q) : Met l y_V_admit [.code y_V_admit b_V_admit 4 (some .int)] { frames := 2, cells := 0, slots := 0, locals := 46 } (va_Pc [.ref (a 0), .int x1, .int x2, .int x3] (PreC tbW D clV (tyV q) 101 a (ceV a q) h)) (va_Qi Q (AtC D clV 101 a (ceV a q)) (inW a 101)) 0 0 (inW a 101) :=
  m_of (by decide +kernel) hI tb_ok (Nat.le_of_ble_eq_true rfl) (fun p e R s m below meth c X => kb_V_admit_0 X hw)
set_option maxHeartbeats 4000000 in
set_option maxRecDepth 100000 in
theorem kb_V_put_0 {Q : Int32 → RS → Prop} (X : Cx p l R s m args meth c b_V_put 3 R_V (some .int) D clV (tyV q) a 101 3 69 tbW) {h : RS} {x1 : Int32} {x2 : Int32} (hw : bp_V_put_0 Q h x1 x2) : Z p l e R s m args below meth c D clV 101 a (ceV a q) 3 (MQ below (va_Qi Q (AtC D clV 101 a (ceV a q)) (inW a 101)) args s 0 0 (inW a 101)) h 0 [(0, .ref (a 0)), (1, .int x1), (2, .int x2)] [] := by
  unfold bp_V_put_0 at hw
  refine z_aload_n (pc := 0) X 0 d_V_put_0 rfl rfl ?_
  refine z_iload_n (pc := 1) X 1 d_V_put_1 rfl rfl ?_
  refine z_iload_n (pc := 2) X 2 d_V_put_2 rfl rfl ?_
  refine z_iconst (v := (0 : Int32)) (pc := 3) X d_V_put_3 (by decide) ?_
  refine z_cVi (i := 0) (pc := 4) X [.int _, .int _, .int _] (c_V_admit X.2.2.2.2.2.2.2.2.1 hw) (by decide) (by decide) lk78 cd_V_admit lk11 lk79 lk80 (by decide) (cV_V _) rfl nm_V_admit rfl rfl (Nat.le_of_ble_eq_true rfl) d_V_put_4 (fun r1 h2 hw => ?_)
  exact z_iret (pc := 7) X d_V_put_7 hw
theorem c_V_put {l : Launch} {D : va_G} {a : Nat → Nat} {q : Nat → ClassId} (hI : injW a 101) {h : RS} {x1 : Int32} {x2 : Int32} {Q : Int32 → RS → Prop} (hw : wp_V_put h x1 x2 Q) : Met l y_V_put [.code y_V_put b_V_put 3 (some .int)] { frames := 3, cells := 0, slots := 0, locals := 69 } (va_Pc [.ref (a 0), .int x1, .int x2] (PreC tbW D clV (tyV q) 101 a (ceV a q) h)) (va_Qi Q (AtC D clV 101 a (ceV a q)) (inW a 101)) 0 0 (inW a 101) :=
  m_of (by decide +kernel) hI tb_ok (Nat.le_of_ble_eq_true rfl) (fun p e R s m below meth c X => kb_V_put_0 X hw)
set_option maxHeartbeats 4000000 in
set_option maxRecDepth 100000 in
theorem kb_V_call_0 {Q : Int32 → RS → Prop} (X : Cx p l R s m args meth c b_V_call 3 R_V (some .int) D clV (tyV q) a 101 3 69 tbW) {h : RS} {x1 : Int32} {x2 : Int32} (hw : bp_V_call_0 Q h x1 x2) : Z p l e R s m args below meth c D clV 101 a (ceV a q) 3 (MQ below (va_Qi Q (AtC D clV 101 a (ceV a q)) (inW a 101)) args s 0 0 (inW a 101)) h 0 [(0, .ref (a 0)), (1, .int x1), (2, .int x2)] [] := by
  unfold bp_V_call_0 at hw
  refine z_aload_n (pc := 0) X 0 d_V_call_0 rfl rfl ?_
  refine z_iload_n (pc := 1) X 1 d_V_call_1 rfl rfl ?_
  refine z_iload_n (pc := 2) X 2 d_V_call_2 rfl rfl ?_
  refine z_iconst (v := (1 : Int32)) (pc := 3) X d_V_call_3 (by decide) ?_
  refine z_cVi (i := 0) (pc := 4) X [.int _, .int _, .int _] (c_V_admit X.2.2.2.2.2.2.2.2.1 hw) (by decide) (by decide) lk78 cd_V_admit lk11 lk79 lk80 (by decide) (cV_V _) rfl nm_V_admit rfl rfl (Nat.le_of_ble_eq_true rfl) d_V_call_4 (fun r1 h2 hw => ?_)
  exact z_iret (pc := 7) X d_V_call_7 hw
theorem c_V_call {l : Launch} {D : va_G} {a : Nat → Nat} {q : Nat → ClassId} (hI : injW a 101) {h : RS} {x1 : Int32} {x2 : Int32} {Q : Int32 → RS → Prop} (hw : wp_V_call h x1 x2 Q) : Met l y_V_call [.code y_V_call b_V_call 3 (some .int)] { frames := 3, cells := 0, slots := 0, locals := 69 } (va_Pc [.ref (a 0), .int x1, .int x2] (PreC tbW D clV (tyV q) 101 a (ceV a q) h)) (va_Qi Q (AtC D clV 101 a (ceV a q)) (inW a 101)) 0 0 (inW a 101) :=
  m_of (by decide +kernel) hI tb_ok (Nat.le_of_ble_eq_true rfl) (fun p e R s m below meth c X => kb_V_call_0 X hw)
set_option maxHeartbeats 4000000 in
set_option maxRecDepth 100000 in
theorem kb_Ms_has_0 {Q : Int32 → RS → Prop} (X : Cx p l R s m args meth c b_Ms_has 2 R_Ms (some .boolean) D clV (tyV q) a 101 0 0 tbW) {h : RS} {x1 : Int32} (hw : bp_Ms_has_0 Q h x1) : Z p l e R s m args below meth c D clV 101 a (ceV a q) 2 (MQ below (va_Qi Q (AtC D clV 101 a (ceV a q)) (inW a 101)) args s 0 0 (inW a 101)) h 0 [(0, .ref (a 3)), (1, .int x1)] [] := by
  unfold bp_Ms_has_0 at hw
  refine z_iload_n (pc := 0) X 1 d_Ms_has_0 rfl rfl ?_
  refine z_if_lt (tgt := 16) (pc := 1) X d_Ms_has_1 (by decide) (fun hc => ?_) (fun hc => ?_)
  · have hw := hw.1 hc
    refine z_iconst (v := (0 : Int32)) (pc := 16) X d_Ms_has_16 (by decide) ?_
    exact z_zret (pc := 17) X hw.1 d_Ms_has_17 hw.2
  · have hw := hw.2 hc
    refine z_iload_n (pc := 4) X 1 d_Ms_has_4 rfl rfl ?_
    refine z_aload_n (pc := 5) X 0 d_Ms_has_5 rfl rfl ?_
    refine z_get (i := 3) (pc := 6) X (by decide) (cV_Msgs _) rfl hin_Ms 0 (by decide) lk57 rfl rfl d_Ms_has_6 ?_
    refine z_icmp_ge (tgt := 16) (pc := 9) X d_Ms_has_9 (by decide) (fun hc => ?_) (fun hc => ?_)
    · have hw := hw.1 hc
      refine z_iconst (v := (0 : Int32)) (pc := 16) X d_Ms_has_16 (by decide) ?_
      exact z_zret (pc := 17) X hw.1 d_Ms_has_17 hw.2
    · have hw := hw.2 hc
      refine z_iconst (v := (1 : Int32)) (pc := 12) X d_Ms_has_12 (by decide) ?_
      refine z_goto (tgt := 17) (pc := 13) X d_Ms_has_13 (by decide) ?_
      exact z_zret (pc := 17) X hw.1 d_Ms_has_17 hw.2
theorem c_Ms_has {l : Launch} {D : va_G} {a : Nat → Nat} {q : Nat → ClassId} (hI : injW a 101) {h : RS} {x1 : Int32} {Q : Int32 → RS → Prop} (hw : wp_Ms_has h x1 Q) : Met l y_Ms_has [.code y_Ms_has b_Ms_has 2 (some .boolean)] { frames := 0, cells := 0, slots := 0, locals := 0 } (va_Pc [.ref (a 3), .int x1] (PreC tbW D clV (tyV q) 101 a (ceV a q) h)) (va_Qi Q (AtC D clV 101 a (ceV a q)) (inW a 101)) 0 0 (inW a 101) :=
  m_of (by decide +kernel) hI tb_ok (Nat.le_of_ble_eq_true rfl) (fun p e R s m below meth c X => kb_Ms_has_0 X hw)
set_option maxHeartbeats 4000000 in
set_option maxRecDepth 100000 in
theorem kb_Ch_removePending_4 {Q : RS → Prop} (X : Cx p l R s m args meth c b_Ch_removePending 4 R_Ch none D clV (tyV q) a 101 0 0 tbW) {K4 : RS → Nat → Int32 → Int32 → Int32 → Prop} (hK4 : ∀ (h : RS) (i0 : Nat) (x1 : Int32) (x2 : Int32) (x3 : Int32), i0 < 8 → K4 h i0 x1 x2 x3 → Z p l e R s m args below meth c D clV 101 a (ceV a q) 4 (MQ below (va_Qv Q (AtC D clV 101 a (ceV a q)) (inW a 101)) args s 0 0 (inW a 101)) h 4 [(0, .ref (a (13 + i0))), (1, .int x1), (2, .int x2), (3, .int x3)] []) {h : RS} {i0 : Nat} {x1 : Int32} {x2 : Int32} {x3 : Int32} (hi0 : i0 < 8) (hw : bp_Ch_removePending_4 K4 Q h i0 x1 x2 x3) : Z p l e R s m args below meth c D clV 101 a (ceV a q) 4 (MQ below (va_Qv Q (AtC D clV 101 a (ceV a q)) (inW a 101)) args s 0 0 (inW a 101)) h 4 [(0, .ref (a (13 + i0))), (1, .int x1), (2, .int x2), (3, .int x3)] [] := by
  unfold bp_Ch_removePending_4 at hw
  refine z_iload_n (pc := 4) X 3 d_Ch_removePending_4 rfl rfl ?_
  refine z_aload_n (pc := 5) X 0 d_Ch_removePending_5 rfl rfl ?_
  refine z_get (i := (13 + i0)) (pc := 6) X (lt_ix hi0 (by decide)) (cV_Ch _ hi0) rfl hin_Ch 2 (by decide) lk63 rfl rfl d_Ch_removePending_6 ?_
  refine z_icmp_ge (tgt := 43) (pc := 9) X d_Ch_removePending_9 (by decide) (fun hc => ?_) (fun hc => ?_)
  · have hw := hw.1 hc
    refine z_aload_n (pc := 43) X 0 d_Ch_removePending_43 rfl rfl ?_
    refine z_iload_n (pc := 44) X 2 d_Ch_removePending_44 rfl rfl ?_
    refine z_put (i := (13 + i0)) (pc := 45) X (lt_ix hi0 (by decide)) (cV_Ch _ hi0) rfl hin_Ch t_Ch t_Ch_ok n_Ch 2 (by decide) lk63 rfl rfl (t_Ch_ok 2 (by decide)) rfl rfl (Nat.le_of_ble_eq_true rfl) (cV_Ch _ hi0) d_Ch_removePending_45 ?_
    have hw := hw _ rfl
    exact z_vret (pc := 48) X d_Ch_removePending_48 hw
  · have hw := hw.2 hc
    refine z_aload_n (pc := 12) X 0 d_Ch_removePending_12 rfl rfl ?_
    refine z_get (i := (13 + i0)) (pc := 13) X (lt_ix hi0 (by decide)) (cV_Ch _ hi0) rfl hin_Ch 1 (by decide) lk62 rfl rfl d_Ch_removePending_13 ?_
    refine z_iload_n (pc := 16) X 3 d_Ch_removePending_16 rfl rfl ?_
    obtain ⟨k2, hk2, ek2, hw⟩ := hw
    refine z_iald (i := (21 + i0)) (pc := 17) X 0 (lt_ix hi0 (by decide)) (cV_Pn _ hi0) rfl (by decide) hk2 ek2 d_Ch_removePending_17 ?_
    refine z_iload_n (pc := 18) X 1 d_Ch_removePending_18 rfl rfl ?_
    refine z_icmp_eq (tgt := 37) (pc := 19) X d_Ch_removePending_19 (by decide) (fun hc => ?_) (fun hc => ?_)
    · have hw := hw.1 hc
      refine z_iinc (v := (x3 + 1)) (pc := 37) X 3 d_Ch_removePending_37 rfl rfl (by decide) rfl ?_
      refine z_goto (tgt := 4) (pc := 40) X d_Ch_removePending_40 (by decide) ?_
      exact z_to [1, 2, 3, 0] rfl (hK4 _ _ _ _ _ hi0 hw)
    · have hw := hw.2 hc
      refine z_aload_n (pc := 22) X 0 d_Ch_removePending_22 rfl rfl ?_
      refine z_get (i := (13 + i0)) (pc := 23) X (lt_ix hi0 (by decide)) (cV_Ch _ hi0) rfl hin_Ch 1 (by decide) lk62 rfl rfl d_Ch_removePending_23 ?_
      refine z_iload_n (pc := 26) X 2 d_Ch_removePending_26 rfl rfl ?_
      refine z_aload_n (pc := 27) X 0 d_Ch_removePending_27 rfl rfl ?_
      refine z_get (i := (13 + i0)) (pc := 28) X (lt_ix hi0 (by decide)) (cV_Ch _ hi0) rfl hin_Ch 1 (by decide) lk62 rfl rfl d_Ch_removePending_28 ?_
      refine z_iload_n (pc := 31) X 3 d_Ch_removePending_31 rfl rfl ?_
      obtain ⟨k3, hk3, ek3, hw⟩ := hw
      refine z_iald (i := (21 + i0)) (pc := 32) X 0 (lt_ix hi0 (by decide)) (cV_Pn _ hi0) rfl (by decide) hk3 ek3 d_Ch_removePending_32 ?_
      obtain ⟨k4, hk4, ek4, hw⟩ := hw
      refine z_iast (i := (21 + i0)) (pc := 33) X 0 (lt_ix hi0 (by decide)) (fun g => (cV_Pn g hi0)) rfl (by decide) hk4 ek4 d_Ch_removePending_33 ?_
      have hw := hw _ rfl
      refine z_iinc (v := (x2 + 1)) (pc := 34) X 2 d_Ch_removePending_34 rfl rfl (by decide) rfl ?_
      refine z_iinc (v := (x3 + 1)) (pc := 37) X 3 d_Ch_removePending_37 rfl rfl (by decide) rfl ?_
      refine z_goto (tgt := 4) (pc := 40) X d_Ch_removePending_40 (by decide) ?_
      exact z_to [2, 3, 1, 0] rfl (hK4 _ _ _ _ _ hi0 hw)
theorem kl_Ch_removePending_4 {Q : RS → Prop} (X : Cx p l R s m args meth c b_Ch_removePending 4 R_Ch none D clV (tyV q) a 101 0 0 tbW) : ∀ (n : Nat) (h : RS) (i0 : Nat) (x1 : Int32) (x2 : Int32) (x3 : Int32), i0 < 8 → wp_Ch_removePending_4 Q n h i0 x1 x2 x3 → Z p l e R s m args below meth c D clV 101 a (ceV a q) 4 (MQ below (va_Qv Q (AtC D clV 101 a (ceV a q)) (inW a 101)) args s 0 0 (inW a 101)) h 4 [(0, .ref (a (13 + i0))), (1, .int x1), (2, .int x2), (3, .int x3)] [] := by
  intro n
  induction n with
  | zero =>
    intro h i0 x1 x2 x3 hi0 hw
    exact hw.elim
  | succ n ih =>
    intro h i0 x1 x2 x3 hi0 hw
    exact kb_Ch_removePending_4 X ih hi0 hw
set_option maxHeartbeats 4000000 in
set_option maxRecDepth 100000 in
theorem kb_Ch_removePending_0 {Q : RS → Prop} (X : Cx p l R s m args meth c b_Ch_removePending 4 R_Ch none D clV (tyV q) a 101 0 0 tbW) {h : RS} {i0 : Nat} {x1 : Int32} (hi0 : i0 < 8) (hw : bp_Ch_removePending_0 Q h i0 x1) : Z p l e R s m args below meth c D clV 101 a (ceV a q) 4 (MQ below (va_Qv Q (AtC D clV 101 a (ceV a q)) (inW a 101)) args s 0 0 (inW a 101)) h 0 [(0, .ref (a (13 + i0))), (1, .int x1)] [] := by
  unfold bp_Ch_removePending_0 at hw
  refine z_iconst (v := (0 : Int32)) (pc := 0) X d_Ch_removePending_0 (by decide) ?_
  refine z_istore_n (pc := 1) X d_Ch_removePending_1 rfl (by decide) rfl ?_
  refine z_iconst (v := (0 : Int32)) (pc := 2) X d_Ch_removePending_2 (by decide) ?_
  refine z_istore_n (pc := 3) X d_Ch_removePending_3 rfl (by decide) rfl ?_
  obtain ⟨n6, hw⟩ := hw
  exact z_to [2, 3, 1, 0] rfl (kl_Ch_removePending_4 X n6 _ _ _ _ _ hi0 hw)
theorem c_Ch_removePending {l : Launch} {D : va_G} {a : Nat → Nat} {q : Nat → ClassId} (hI : injW a 101) {h : RS} {i0 : Nat} {x1 : Int32} (hi0 : i0 < 8) {Q : RS → Prop} (hw : wp_Ch_removePending h i0 x1 Q) : Met l y_Ch_removePending [.code y_Ch_removePending b_Ch_removePending 4 none] { frames := 0, cells := 0, slots := 0, locals := 0 } (va_Pc [.ref (a (13 + i0)), .int x1] (PreC tbW D clV (tyV q) 101 a (ceV a q) h)) (va_Qv Q (AtC D clV 101 a (ceV a q)) (inW a 101)) 0 0 (inW a 101) :=
  m_of (by decide +kernel) hI tb_ok (Nat.le_of_ble_eq_true rfl) (fun p e R s m below meth c X => kb_Ch_removePending_0 X hi0 hw)
set_option maxHeartbeats 4000000 in
set_option maxRecDepth 100000 in
theorem kb_V_withdraw_0 {Q : Int32 → RS → Prop} (X : Cx p l R s m args meth c b_V_withdraw 3 R_V (some .boolean) D clV (tyV q) a 101 1 23 tbW) {h : RS} {x1 : Int32} (hw : bp_V_withdraw_0 Q h x1) : Z p l e R s m args below meth c D clV 101 a (ceV a q) 3 (MQ below (va_Qi Q (AtC D clV 101 a (ceV a q)) (inW a 101)) args s 0 0 (inW a 101)) h 0 [(0, .ref (a 0)), (1, .int x1)] [] := by
  unfold bp_V_withdraw_0 at hw
  refine z_aload_n (pc := 0) X 0 d_V_withdraw_0 rfl rfl ?_
  refine z_get (i := 0) (pc := 1) X (by decide) (cV_V _) rfl hin_V 5 (by decide) lk64 rfl rfl d_V_withdraw_1 ?_
  refine z_iload_n (pc := 4) X 1 d_V_withdraw_4 rfl rfl ?_
  refine z_cVNi (i := 3) (pc := 5) X [.int _] (c_Ms_has X.2.2.2.2.2.2.2.2.1 hw) (by decide) (by decide) lk81 cd_Ms_has lk66 lk82 lk83 (by decide) (cV_Msgs _) rfl nm_Ms_has rfl rfl (Nat.le_of_ble_eq_true rfl) d_V_withdraw_5 (fun r1 h2 hw => ?_)
  refine z_if_eq (tgt := 24) (pc := 8) X d_V_withdraw_8 (by decide) (fun hc => ?_) (fun hc => ?_)
  · have hw := hw.1 hc
    refine z_iconst (v := (0 : Int32)) (pc := 24) X d_V_withdraw_24 (by decide) ?_
    exact z_zret (pc := 25) X hw.1 d_V_withdraw_25 hw.2
  · have hw := hw.2 hc
    refine z_aload_n (pc := 11) X 0 d_V_withdraw_11 rfl rfl ?_
    refine z_get (i := 0) (pc := 12) X (by decide) (cV_V _) rfl hin_V 5 (by decide) lk64 rfl rfl d_V_withdraw_12 ?_
    refine z_getN (i := 3) (pc := 15) X (by decide) (cV_Msgs _) rfl hin_Ms 3 (by decide) lk84 rfl rfl d_V_withdraw_15 ?_
    refine z_iload_n (pc := 18) X 1 d_V_withdraw_18 rfl rfl ?_
    obtain ⟨k3, hk3, ek3, hw⟩ := hw
    refine z_iald (i := 8) (pc := 19) X 0 (by decide) (cV_mSt _) rfl (by decide) hk3 ek3 d_V_withdraw_19 ?_
    refine z_iconst (v := (1 : Int32)) (pc := 20) X d_V_withdraw_20 (by decide) ?_
    refine z_icmp_eq (tgt := 26) (pc := 21) X d_V_withdraw_21 (by decide) (fun hc => ?_) (fun hc => ?_)
    · have hw := hw.1 hc
      refine z_aload_n (pc := 26) X 0 d_V_withdraw_26 rfl rfl ?_
      refine z_get (i := 0) (pc := 27) X (by decide) (cV_V _) rfl hin_V 0 (by decide) lk3 rfl rfl d_V_withdraw_27 ?_
      refine z_aload_n (pc := 30) X 0 d_V_withdraw_30 rfl rfl ?_
      refine z_get (i := 0) (pc := 31) X (by decide) (cV_V _) rfl hin_V 5 (by decide) lk64 rfl rfl d_V_withdraw_31 ?_
      refine z_getN (i := 3) (pc := 34) X (by decide) (cV_Msgs _) rfl hin_Ms 1 (by decide) lk85 rfl rfl d_V_withdraw_34 ?_
      refine z_iload_n (pc := 37) X 1 d_V_withdraw_37 rfl rfl ?_
      obtain ⟨k4, hk4, ek4, hw⟩ := hw
      refine z_iald (i := 6) (pc := 38) X 0 (by decide) (cV_mCh _) rfl (by decide) hk4 ek4 d_V_withdraw_38 ?_
      obtain ⟨k5, hk5, ek5, hw⟩ := hw
      refine z_aald (i := 1) (g := fun j => 13 + j) (pc := 39) X 2 (by decide) (cV_Chs _) rfl (by decide) hk5 ek5 d_V_withdraw_39 ?_
      refine z_astore_n (pc := 40) X d_V_withdraw_40 rfl (by decide) rfl ?_
      refine z_aload_n (pc := 41) X 0 d_V_withdraw_41 rfl rfl ?_
      refine z_getN (i := (13 + k5)) (pc := 42) X (lt_ix hk5 (by decide)) (cV_Ch _ hk5) rfl hin_Ch 0 (by decide) lk4 rfl rfl d_V_withdraw_42 ?_
      refine z_if_ne (tgt := 50) (pc := 45) X d_V_withdraw_45 (by decide) (fun hc => ?_) (fun hc => ?_)
      · have hw := hw.1 hc
        refine z_aload_n (pc := 50) X 1 d_V_withdraw_50 rfl rfl ?_
        refine z_get (i := 0) (pc := 51) X (by decide) (cV_V _) rfl hin_V 5 (by decide) lk64 rfl rfl d_V_withdraw_51 ?_
        refine z_getN (i := 3) (pc := 54) X (by decide) (cV_Msgs _) rfl hin_Ms 3 (by decide) lk84 rfl rfl d_V_withdraw_54 ?_
        refine z_iload_n (pc := 57) X 2 d_V_withdraw_57 rfl rfl ?_
        refine z_iconst (v := (3 : Int32)) (pc := 58) X d_V_withdraw_58 (by decide) ?_
        obtain ⟨k6, hk6, ek6, hw⟩ := hw
        refine z_iast (i := 8) (pc := 59) X 0 (by decide) (fun g => (cV_mSt g)) rfl (by decide) hk6 ek6 d_V_withdraw_59 ?_
        have hw := hw _ rfl
        refine z_aload_n (pc := 60) X 0 d_V_withdraw_60 rfl rfl ?_
        refine z_iload_n (pc := 61) X 2 d_V_withdraw_61 rfl rfl ?_
        refine z_cVNv (i := (13 + k5)) (pc := 62) X [.int _] (c_Ch_removePending X.2.2.2.2.2.2.2.2.1 hk5 hw) (by decide) (by decide) lk86 cd_Ch_removePending lk70 lk87 lk88 (lt_ix hk5 (by decide)) (cV_Ch _ hk5) rfl nm_Ch_removePending rfl rfl (Nat.le_of_ble_eq_true rfl) d_V_withdraw_62 (fun h8 hw => ?_)
        refine z_iconst (v := (1 : Int32)) (pc := 65) X d_V_withdraw_65 (by decide) ?_
        exact z_zret (pc := 66) X hw.1 d_V_withdraw_66 hw.2
      · have hw := hw.2 hc
        refine z_iconst (v := (0 : Int32)) (pc := 48) X d_V_withdraw_48 (by decide) ?_
        exact z_zret (pc := 49) X hw.1 d_V_withdraw_49 hw.2
    · have hw := hw.2 hc
      refine z_iconst (v := (0 : Int32)) (pc := 24) X d_V_withdraw_24 (by decide) ?_
      exact z_zret (pc := 25) X hw.1 d_V_withdraw_25 hw.2
theorem c_V_withdraw {l : Launch} {D : va_G} {a : Nat → Nat} {q : Nat → ClassId} (hI : injW a 101) {h : RS} {x1 : Int32} {Q : Int32 → RS → Prop} (hw : wp_V_withdraw h x1 Q) : Met l y_V_withdraw [.code y_V_withdraw b_V_withdraw 3 (some .boolean)] { frames := 1, cells := 0, slots := 0, locals := 23 } (va_Pc [.ref (a 0), .int x1] (PreC tbW D clV (tyV q) 101 a (ceV a q) h)) (va_Qi Q (AtC D clV 101 a (ceV a q)) (inW a 101)) 0 0 (inW a 101) :=
  m_of (by decide +kernel) hI tb_ok (Nat.le_of_ble_eq_true rfl) (fun p e R s m below meth c X => kb_V_withdraw_0 X hw)
set_option maxHeartbeats 4000000 in
set_option maxRecDepth 100000 in
theorem kb_Re_sendCount_4 {Q : Int32 → RS → Prop} (X : Cx p l R s m args meth c b_Re_sendCount 3 R_Re (some .int) D clV (tyV q) a 101 0 0 tbW) {K4 : RS → Nat → Int32 → Int32 → Prop} (hK4 : ∀ (h : RS) (i0 : Nat) (x1 : Int32) (x2 : Int32), i0 < 8 → K4 h i0 x1 x2 → Z p l e R s m args below meth c D clV 101 a (ceV a q) 3 (MQ below (va_Qi Q (AtC D clV 101 a (ceV a q)) (inW a 101)) args s 0 0 (inW a 101)) h 4 [(0, .ref (a (29 + i0))), (1, .int x1), (2, .int x2)] []) {h : RS} {i0 : Nat} {x1 : Int32} {x2 : Int32} (hi0 : i0 < 8) (hw : bp_Re_sendCount_4 K4 Q h i0 x1 x2) : Z p l e R s m args below meth c D clV 101 a (ceV a q) 3 (MQ below (va_Qi Q (AtC D clV 101 a (ceV a q)) (inW a 101)) args s 0 0 (inW a 101)) h 4 [(0, .ref (a (29 + i0))), (1, .int x1), (2, .int x2)] [] := by
  unfold bp_Re_sendCount_4 at hw
  refine z_iload_n (pc := 4) X 2 d_Re_sendCount_4 rfl rfl ?_
  refine z_aload_n (pc := 5) X 0 d_Re_sendCount_5 rfl rfl ?_
  refine z_get (i := (29 + i0)) (pc := 6) X (lt_ix hi0 (by decide)) (cV_Re _ hi0) rfl hin_Re 6 (by decide) lk31 rfl rfl d_Re_sendCount_6 ?_
  refine z_icmp_ge (tgt := 30) (pc := 9) X d_Re_sendCount_9 (by decide) (fun hc => ?_) (fun hc => ?_)
  · have hw := hw.1 hc
    refine z_iload_n (pc := 30) X 1 d_Re_sendCount_30 rfl rfl ?_
    exact z_iret (pc := 31) X d_Re_sendCount_31 hw
  · have hw := hw.2 hc
    refine z_aload_n (pc := 12) X 0 d_Re_sendCount_12 rfl rfl ?_
    refine z_get (i := (29 + i0)) (pc := 13) X (lt_ix hi0 (by decide)) (cV_Re _ hi0) rfl hin_Re 7 (by decide) lk32 rfl rfl d_Re_sendCount_13 ?_
    refine z_iload_n (pc := 16) X 2 d_Re_sendCount_16 rfl rfl ?_
    obtain ⟨k1, hk1, ek1, hw⟩ := hw
    refine z_zald (i := (61 + i0)) (pc := 17) X 1 (lt_ix hi0 (by decide)) (cV_aS _ hi0) rfl (by decide) hk1 ek1 d_Re_sendCount_17 ?_
    refine z_if_eq (tgt := 24) (pc := 18) X d_Re_sendCount_18 (by decide) (fun hc => ?_) (fun hc => ?_)
    · have hw := hw.1 hc
      refine z_iinc (v := (x2 + 1)) (pc := 24) X 2 d_Re_sendCount_24 rfl rfl (by decide) rfl ?_
      refine z_goto (tgt := 4) (pc := 27) X d_Re_sendCount_27 (by decide) ?_
      exact z_to [1, 2, 0] rfl (hK4 _ _ _ _ hi0 hw)
    · have hw := hw.2 hc
      refine z_iinc (v := (x1 + 1)) (pc := 21) X 1 d_Re_sendCount_21 rfl rfl (by decide) rfl ?_
      refine z_iinc (v := (x2 + 1)) (pc := 24) X 2 d_Re_sendCount_24 rfl rfl (by decide) rfl ?_
      refine z_goto (tgt := 4) (pc := 27) X d_Re_sendCount_27 (by decide) ?_
      exact z_to [2, 1, 0] rfl (hK4 _ _ _ _ hi0 hw)
theorem kl_Re_sendCount_4 {Q : Int32 → RS → Prop} (X : Cx p l R s m args meth c b_Re_sendCount 3 R_Re (some .int) D clV (tyV q) a 101 0 0 tbW) : ∀ (n : Nat) (h : RS) (i0 : Nat) (x1 : Int32) (x2 : Int32), i0 < 8 → wp_Re_sendCount_4 Q n h i0 x1 x2 → Z p l e R s m args below meth c D clV 101 a (ceV a q) 3 (MQ below (va_Qi Q (AtC D clV 101 a (ceV a q)) (inW a 101)) args s 0 0 (inW a 101)) h 4 [(0, .ref (a (29 + i0))), (1, .int x1), (2, .int x2)] [] := by
  intro n
  induction n with
  | zero =>
    intro h i0 x1 x2 hi0 hw
    exact hw.elim
  | succ n ih =>
    intro h i0 x1 x2 hi0 hw
    exact kb_Re_sendCount_4 X ih hi0 hw
set_option maxHeartbeats 4000000 in
set_option maxRecDepth 100000 in
theorem kb_Re_sendCount_0 {Q : Int32 → RS → Prop} (X : Cx p l R s m args meth c b_Re_sendCount 3 R_Re (some .int) D clV (tyV q) a 101 0 0 tbW) {h : RS} {i0 : Nat} (hi0 : i0 < 8) (hw : bp_Re_sendCount_0 Q h i0) : Z p l e R s m args below meth c D clV 101 a (ceV a q) 3 (MQ below (va_Qi Q (AtC D clV 101 a (ceV a q)) (inW a 101)) args s 0 0 (inW a 101)) h 0 [(0, .ref (a (29 + i0)))] [] := by
  unfold bp_Re_sendCount_0 at hw
  refine z_iconst (v := (0 : Int32)) (pc := 0) X d_Re_sendCount_0 (by decide) ?_
  refine z_istore_n (pc := 1) X d_Re_sendCount_1 rfl (by decide) rfl ?_
  refine z_iconst (v := (0 : Int32)) (pc := 2) X d_Re_sendCount_2 (by decide) ?_
  refine z_istore_n (pc := 3) X d_Re_sendCount_3 rfl (by decide) rfl ?_
  obtain ⟨n2, hw⟩ := hw
  exact z_to [2, 1, 0] rfl (kl_Re_sendCount_4 X n2 _ _ _ _ hi0 hw)
theorem c_Re_sendCount {l : Launch} {D : va_G} {a : Nat → Nat} {q : Nat → ClassId} (hI : injW a 101) {h : RS} {i0 : Nat} (hi0 : i0 < 8) {Q : Int32 → RS → Prop} (hw : wp_Re_sendCount h i0 Q) : Met l y_Re_sendCount [.code y_Re_sendCount b_Re_sendCount 3 (some .int)] { frames := 0, cells := 0, slots := 0, locals := 0 } (va_Pc [.ref (a (29 + i0))] (PreC tbW D clV (tyV q) 101 a (ceV a q) h)) (va_Qi Q (AtC D clV 101 a (ceV a q)) (inW a 101)) 0 0 (inW a 101) :=
  m_of (by decide +kernel) hI tb_ok (Nat.le_of_ble_eq_true rfl) (fun p e R s m below meth c X => kb_Re_sendCount_0 X hi0 hw)
set_option maxHeartbeats 4000000 in
set_option maxRecDepth 100000 in
theorem kb_Re_partsOn_4 {Q : Int32 → RS → Prop} (X : Cx p l R s m args meth c b_Re_partsOn 4 R_Re (some .int) D clV (tyV q) a 101 0 0 tbW) {K4 : RS → Nat → Int32 → Int32 → Int32 → Prop} (hK4 : ∀ (h : RS) (i0 : Nat) (x1 : Int32) (x2 : Int32) (x3 : Int32), i0 < 8 → K4 h i0 x1 x2 x3 → Z p l e R s m args below meth c D clV 101 a (ceV a q) 4 (MQ below (va_Qi Q (AtC D clV 101 a (ceV a q)) (inW a 101)) args s 0 0 (inW a 101)) h 4 [(0, .ref (a (29 + i0))), (1, .int x1), (2, .int x2), (3, .int x3)] []) {h : RS} {i0 : Nat} {x1 : Int32} {x2 : Int32} {x3 : Int32} (hi0 : i0 < 8) (hw : bp_Re_partsOn_4 K4 Q h i0 x1 x2 x3) : Z p l e R s m args below meth c D clV 101 a (ceV a q) 4 (MQ below (va_Qi Q (AtC D clV 101 a (ceV a q)) (inW a 101)) args s 0 0 (inW a 101)) h 4 [(0, .ref (a (29 + i0))), (1, .int x1), (2, .int x2), (3, .int x3)] [] := by
  unfold bp_Re_partsOn_4 at hw
  refine z_iload_n (pc := 4) X 3 d_Re_partsOn_4 rfl rfl ?_
  refine z_aload_n (pc := 5) X 0 d_Re_partsOn_5 rfl rfl ?_
  refine z_get (i := (29 + i0)) (pc := 6) X (lt_ix hi0 (by decide)) (cV_Re _ hi0) rfl hin_Re 0 (by decide) lk6 rfl rfl d_Re_partsOn_6 ?_
  refine z_icmp_ge (tgt := 31) (pc := 9) X d_Re_partsOn_9 (by decide) (fun hc => ?_) (fun hc => ?_)
  · have hw := hw.1 hc
    refine z_iload_n (pc := 31) X 2 d_Re_partsOn_31 rfl rfl ?_
    exact z_iret (pc := 32) X d_Re_partsOn_32 hw
  · have hw := hw.2 hc
    refine z_aload_n (pc := 12) X 0 d_Re_partsOn_12 rfl rfl ?_
    refine z_get (i := (29 + i0)) (pc := 13) X (lt_ix hi0 (by decide)) (cV_Re _ hi0) rfl hin_Re 1 (by decide) lk7 rfl rfl d_Re_partsOn_13 ?_
    refine z_iload_n (pc := 16) X 3 d_Re_partsOn_16 rfl rfl ?_
    obtain ⟨k1, hk1, ek1, hw⟩ := hw
    refine z_iald (i := (37 + i0)) (pc := 17) X 0 (lt_ix hi0 (by decide)) (cV_pC _ hi0) rfl (by decide) hk1 ek1 d_Re_partsOn_17 ?_
    refine z_iload_n (pc := 18) X 1 d_Re_partsOn_18 rfl rfl ?_
    refine z_icmp_ne (tgt := 25) (pc := 19) X d_Re_partsOn_19 (by decide) (fun hc => ?_) (fun hc => ?_)
    · have hw := hw.1 hc
      refine z_iinc (v := (x3 + 1)) (pc := 25) X 3 d_Re_partsOn_25 rfl rfl (by decide) rfl ?_
      refine z_goto (tgt := 4) (pc := 28) X d_Re_partsOn_28 (by decide) ?_
      exact z_to [1, 2, 3, 0] rfl (hK4 _ _ _ _ _ hi0 hw)
    · have hw := hw.2 hc
      refine z_iinc (v := (x2 + 1)) (pc := 22) X 2 d_Re_partsOn_22 rfl rfl (by decide) rfl ?_
      refine z_iinc (v := (x3 + 1)) (pc := 25) X 3 d_Re_partsOn_25 rfl rfl (by decide) rfl ?_
      refine z_goto (tgt := 4) (pc := 28) X d_Re_partsOn_28 (by decide) ?_
      exact z_to [2, 3, 1, 0] rfl (hK4 _ _ _ _ _ hi0 hw)
theorem kl_Re_partsOn_4 {Q : Int32 → RS → Prop} (X : Cx p l R s m args meth c b_Re_partsOn 4 R_Re (some .int) D clV (tyV q) a 101 0 0 tbW) : ∀ (n : Nat) (h : RS) (i0 : Nat) (x1 : Int32) (x2 : Int32) (x3 : Int32), i0 < 8 → wp_Re_partsOn_4 Q n h i0 x1 x2 x3 → Z p l e R s m args below meth c D clV 101 a (ceV a q) 4 (MQ below (va_Qi Q (AtC D clV 101 a (ceV a q)) (inW a 101)) args s 0 0 (inW a 101)) h 4 [(0, .ref (a (29 + i0))), (1, .int x1), (2, .int x2), (3, .int x3)] [] := by
  intro n
  induction n with
  | zero =>
    intro h i0 x1 x2 x3 hi0 hw
    exact hw.elim
  | succ n ih =>
    intro h i0 x1 x2 x3 hi0 hw
    exact kb_Re_partsOn_4 X ih hi0 hw
set_option maxHeartbeats 4000000 in
set_option maxRecDepth 100000 in
theorem kb_Re_partsOn_0 {Q : Int32 → RS → Prop} (X : Cx p l R s m args meth c b_Re_partsOn 4 R_Re (some .int) D clV (tyV q) a 101 0 0 tbW) {h : RS} {i0 : Nat} {x1 : Int32} (hi0 : i0 < 8) (hw : bp_Re_partsOn_0 Q h i0 x1) : Z p l e R s m args below meth c D clV 101 a (ceV a q) 4 (MQ below (va_Qi Q (AtC D clV 101 a (ceV a q)) (inW a 101)) args s 0 0 (inW a 101)) h 0 [(0, .ref (a (29 + i0))), (1, .int x1)] [] := by
  unfold bp_Re_partsOn_0 at hw
  refine z_iconst (v := (0 : Int32)) (pc := 0) X d_Re_partsOn_0 (by decide) ?_
  refine z_istore_n (pc := 1) X d_Re_partsOn_1 rfl (by decide) rfl ?_
  refine z_iconst (v := (0 : Int32)) (pc := 2) X d_Re_partsOn_2 (by decide) ?_
  refine z_istore_n (pc := 3) X d_Re_partsOn_3 rfl (by decide) rfl ?_
  obtain ⟨n2, hw⟩ := hw
  exact z_to [2, 3, 1, 0] rfl (kl_Re_partsOn_4 X n2 _ _ _ _ _ hi0 hw)
theorem c_Re_partsOn {l : Launch} {D : va_G} {a : Nat → Nat} {q : Nat → ClassId} (hI : injW a 101) {h : RS} {i0 : Nat} {x1 : Int32} (hi0 : i0 < 8) {Q : Int32 → RS → Prop} (hw : wp_Re_partsOn h i0 x1 Q) : Met l y_Re_partsOn [.code y_Re_partsOn b_Re_partsOn 4 (some .int)] { frames := 0, cells := 0, slots := 0, locals := 0 } (va_Pc [.ref (a (29 + i0)), .int x1] (PreC tbW D clV (tyV q) 101 a (ceV a q) h)) (va_Qi Q (AtC D clV 101 a (ceV a q)) (inW a 101)) 0 0 (inW a 101) :=
  m_of (by decide +kernel) hI tb_ok (Nat.le_of_ble_eq_true rfl) (fun p e R s m below meth c X => kb_Re_partsOn_0 X hi0 hw)
set_option maxHeartbeats 4000000 in
set_option maxRecDepth 100000 in
theorem kb_Re_sendsTo_4 {Q : Int32 → RS → Prop} (X : Cx p l R s m args meth c b_Re_sendsTo 4 R_Re (some .int) D clV (tyV q) a 101 0 0 tbW) {K4 : RS → Nat → Int32 → Int32 → Int32 → Prop} (hK4 : ∀ (h : RS) (i0 : Nat) (x1 : Int32) (x2 : Int32) (x3 : Int32), i0 < 8 → K4 h i0 x1 x2 x3 → Z p l e R s m args below meth c D clV 101 a (ceV a q) 4 (MQ below (va_Qi Q (AtC D clV 101 a (ceV a q)) (inW a 101)) args s 0 0 (inW a 101)) h 4 [(0, .ref (a (29 + i0))), (1, .int x1), (2, .int x2), (3, .int x3)] []) {h : RS} {i0 : Nat} {x1 : Int32} {x2 : Int32} {x3 : Int32} (hi0 : i0 < 8) (hw : bp_Re_sendsTo_4 K4 Q h i0 x1 x2 x3) : Z p l e R s m args below meth c D clV 101 a (ceV a q) 4 (MQ below (va_Qi Q (AtC D clV 101 a (ceV a q)) (inW a 101)) args s 0 0 (inW a 101)) h 4 [(0, .ref (a (29 + i0))), (1, .int x1), (2, .int x2), (3, .int x3)] [] := by
  unfold bp_Re_sendsTo_4 at hw
  refine z_iload_n (pc := 4) X 3 d_Re_sendsTo_4 rfl rfl ?_
  refine z_aload_n (pc := 5) X 0 d_Re_sendsTo_5 rfl rfl ?_
  refine z_get (i := (29 + i0)) (pc := 6) X (lt_ix hi0 (by decide)) (cV_Re _ hi0) rfl hin_Re 6 (by decide) lk31 rfl rfl d_Re_sendsTo_6 ?_
  refine z_icmp_ge (tgt := 40) (pc := 9) X d_Re_sendsTo_9 (by decide) (fun hc => ?_) (fun hc => ?_)
  · have hw := hw.1 hc
    refine z_iload_n (pc := 40) X 2 d_Re_sendsTo_40 rfl rfl ?_
    exact z_iret (pc := 41) X d_Re_sendsTo_41 hw
  · have hw := hw.2 hc
    refine z_aload_n (pc := 12) X 0 d_Re_sendsTo_12 rfl rfl ?_
    refine z_get (i := (29 + i0)) (pc := 13) X (lt_ix hi0 (by decide)) (cV_Re _ hi0) rfl hin_Re 7 (by decide) lk32 rfl rfl d_Re_sendsTo_13 ?_
    refine z_iload_n (pc := 16) X 3 d_Re_sendsTo_16 rfl rfl ?_
    obtain ⟨k1, hk1, ek1, hw⟩ := hw
    refine z_zald (i := (61 + i0)) (pc := 17) X 1 (lt_ix hi0 (by decide)) (cV_aS _ hi0) rfl (by decide) hk1 ek1 d_Re_sendsTo_17 ?_
    refine z_if_eq (tgt := 34) (pc := 18) X d_Re_sendsTo_18 (by decide) (fun hc => ?_) (fun hc => ?_)
    · have hw := hw.1 hc
      refine z_iinc (v := (x3 + 1)) (pc := 34) X 3 d_Re_sendsTo_34 rfl rfl (by decide) rfl ?_
      refine z_goto (tgt := 4) (pc := 37) X d_Re_sendsTo_37 (by decide) ?_
      exact z_to [1, 2, 3, 0] rfl (hK4 _ _ _ _ _ hi0 hw)
    · have hw := hw.2 hc
      refine z_aload_n (pc := 21) X 0 d_Re_sendsTo_21 rfl rfl ?_
      refine z_get (i := (29 + i0)) (pc := 22) X (lt_ix hi0 (by decide)) (cV_Re _ hi0) rfl hin_Re 8 (by decide) lk33 rfl rfl d_Re_sendsTo_22 ?_
      refine z_iload_n (pc := 25) X 3 d_Re_sendsTo_25 rfl rfl ?_
      obtain ⟨k2, hk2, ek2, hw⟩ := hw
      refine z_iald (i := (69 + i0)) (pc := 26) X 0 (lt_ix hi0 (by decide)) (cV_aT _ hi0) rfl (by decide) hk2 ek2 d_Re_sendsTo_26 ?_
      refine z_iload_n (pc := 27) X 1 d_Re_sendsTo_27 rfl rfl ?_
      refine z_icmp_ne (tgt := 34) (pc := 28) X d_Re_sendsTo_28 (by decide) (fun hc => ?_) (fun hc => ?_)
      · have hw := hw.1 hc
        refine z_iinc (v := (x3 + 1)) (pc := 34) X 3 d_Re_sendsTo_34 rfl rfl (by decide) rfl ?_
        refine z_goto (tgt := 4) (pc := 37) X d_Re_sendsTo_37 (by decide) ?_
        exact z_to [1, 2, 3, 0] rfl (hK4 _ _ _ _ _ hi0 hw)
      · have hw := hw.2 hc
        refine z_iinc (v := (x2 + 1)) (pc := 31) X 2 d_Re_sendsTo_31 rfl rfl (by decide) rfl ?_
        refine z_iinc (v := (x3 + 1)) (pc := 34) X 3 d_Re_sendsTo_34 rfl rfl (by decide) rfl ?_
        refine z_goto (tgt := 4) (pc := 37) X d_Re_sendsTo_37 (by decide) ?_
        exact z_to [2, 3, 1, 0] rfl (hK4 _ _ _ _ _ hi0 hw)
theorem kl_Re_sendsTo_4 {Q : Int32 → RS → Prop} (X : Cx p l R s m args meth c b_Re_sendsTo 4 R_Re (some .int) D clV (tyV q) a 101 0 0 tbW) : ∀ (n : Nat) (h : RS) (i0 : Nat) (x1 : Int32) (x2 : Int32) (x3 : Int32), i0 < 8 → wp_Re_sendsTo_4 Q n h i0 x1 x2 x3 → Z p l e R s m args below meth c D clV 101 a (ceV a q) 4 (MQ below (va_Qi Q (AtC D clV 101 a (ceV a q)) (inW a 101)) args s 0 0 (inW a 101)) h 4 [(0, .ref (a (29 + i0))), (1, .int x1), (2, .int x2), (3, .int x3)] [] := by
  intro n
  induction n with
  | zero =>
    intro h i0 x1 x2 x3 hi0 hw
    exact hw.elim
  | succ n ih =>
    intro h i0 x1 x2 x3 hi0 hw
    exact kb_Re_sendsTo_4 X ih hi0 hw
set_option maxHeartbeats 4000000 in
set_option maxRecDepth 100000 in
theorem kb_Re_sendsTo_0 {Q : Int32 → RS → Prop} (X : Cx p l R s m args meth c b_Re_sendsTo 4 R_Re (some .int) D clV (tyV q) a 101 0 0 tbW) {h : RS} {i0 : Nat} {x1 : Int32} (hi0 : i0 < 8) (hw : bp_Re_sendsTo_0 Q h i0 x1) : Z p l e R s m args below meth c D clV 101 a (ceV a q) 4 (MQ below (va_Qi Q (AtC D clV 101 a (ceV a q)) (inW a 101)) args s 0 0 (inW a 101)) h 0 [(0, .ref (a (29 + i0))), (1, .int x1)] [] := by
  unfold bp_Re_sendsTo_0 at hw
  refine z_iconst (v := (0 : Int32)) (pc := 0) X d_Re_sendsTo_0 (by decide) ?_
  refine z_istore_n (pc := 1) X d_Re_sendsTo_1 rfl (by decide) rfl ?_
  refine z_iconst (v := (0 : Int32)) (pc := 2) X d_Re_sendsTo_2 (by decide) ?_
  refine z_istore_n (pc := 3) X d_Re_sendsTo_3 rfl (by decide) rfl ?_
  obtain ⟨n3, hw⟩ := hw
  exact z_to [2, 3, 1, 0] rfl (kl_Re_sendsTo_4 X n3 _ _ _ _ _ hi0 hw)
theorem c_Re_sendsTo {l : Launch} {D : va_G} {a : Nat → Nat} {q : Nat → ClassId} (hI : injW a 101) {h : RS} {i0 : Nat} {x1 : Int32} (hi0 : i0 < 8) {Q : Int32 → RS → Prop} (hw : wp_Re_sendsTo h i0 x1 Q) : Met l y_Re_sendsTo [.code y_Re_sendsTo b_Re_sendsTo 4 (some .int)] { frames := 0, cells := 0, slots := 0, locals := 0 } (va_Pc [.ref (a (29 + i0)), .int x1] (PreC tbW D clV (tyV q) 101 a (ceV a q) h)) (va_Qi Q (AtC D clV 101 a (ceV a q)) (inW a 101)) 0 0 (inW a 101) :=
  m_of (by decide +kernel) hI tb_ok (Nat.le_of_ble_eq_true rfl) (fun p e R s m below meth c X => kb_Re_sendsTo_0 X hi0 hw)
set_option maxHeartbeats 4000000 in
set_option maxRecDepth 100000 in
theorem kb_V_hasRoom_22 {Q : Int32 → RS → Prop} (X : Cx p l R s m args meth c b_V_hasRoom 4 R_V (some .boolean) D clV (tyV q) a 101 1 23 tbW) {K22 : RS → Nat → Int32 → Prop} (hK22 : ∀ (h : RS) (i1 : Nat) (x2 : Int32), i1 < 8 → K22 h i1 x2 → Z p l e R s m args below meth c D clV 101 a (ceV a q) 4 (MQ below (va_Qi Q (AtC D clV 101 a (ceV a q)) (inW a 101)) args s 0 0 (inW a 101)) h 22 [(0, .ref (a 0)), (1, .ref (a (29 + i1))), (2, .int x2)] []) {h : RS} {i1 : Nat} {x2 : Int32} (hi1 : i1 < 8) (hw : bp_V_hasRoom_22 K22 Q h i1 x2) : Z p l e R s m args below meth c D clV 101 a (ceV a q) 4 (MQ below (va_Qi Q (AtC D clV 101 a (ceV a q)) (inW a 101)) args s 0 0 (inW a 101)) h 22 [(0, .ref (a 0)), (1, .ref (a (29 + i1))), (2, .int x2)] [] := by
  unfold bp_V_hasRoom_22 at hw
  refine z_iload_n (pc := 22) X 2 d_V_hasRoom_22 rfl rfl ?_
  refine z_aload_n (pc := 23) X 0 d_V_hasRoom_23 rfl rfl ?_
  refine z_get (i := 0) (pc := 24) X (by decide) (cV_V _) rfl hin_V 1 (by decide) lk2 rfl rfl d_V_hasRoom_24 ?_
  refine z_icmp_ge (tgt := 66) (pc := 27) X d_V_hasRoom_27 (by decide) (fun hc => ?_) (fun hc => ?_)
  · have hw := hw.1 hc
    refine z_iconst (v := (1 : Int32)) (pc := 66) X d_V_hasRoom_66 (by decide) ?_
    exact z_zret (pc := 67) X hw.1 d_V_hasRoom_67 hw.2
  · have hw := hw.2 hc
    refine z_aload_n (pc := 30) X 0 d_V_hasRoom_30 rfl rfl ?_
    refine z_get (i := 0) (pc := 31) X (by decide) (cV_V _) rfl hin_V 0 (by decide) lk3 rfl rfl d_V_hasRoom_31 ?_
    refine z_iload_n (pc := 34) X 2 d_V_hasRoom_34 rfl rfl ?_
    obtain ⟨k1, hk1, ek1, hw⟩ := hw
    refine z_aald (i := 1) (g := fun j => 13 + j) (pc := 35) X 2 (by decide) (cV_Chs _) rfl (by decide) hk1 ek1 d_V_hasRoom_35 ?_
    refine z_getN (i := (13 + k1)) (pc := 36) X (lt_ix hk1 (by decide)) (cV_Ch _ hk1) rfl hin_Ch 2 (by decide) lk73 rfl rfl d_V_hasRoom_36 ?_
    refine z_aload_n (pc := 39) X 1 d_V_hasRoom_39 rfl rfl ?_
    refine z_iload_n (pc := 40) X 2 d_V_hasRoom_40 rfl rfl ?_
    refine z_cVNi (i := (29 + i1)) (pc := 41) X [.int _] (c_Re_partsOn X.2.2.2.2.2.2.2.2.1 hi1 hw) (by decide) (by decide) lk89 cd_Re_partsOn lk22 lk90 lk91 (lt_ix hi1 (by decide)) (cV_Re _ hi1) rfl nm_Re_partsOn rfl rfl (Nat.le_of_ble_eq_true rfl) d_V_hasRoom_41 (fun r2 h3 hw => ?_)
    refine z_isub (pc := 44) X d_V_hasRoom_44 ?_
    refine z_aload_n (pc := 45) X 1 d_V_hasRoom_45 rfl rfl ?_
    refine z_iload_n (pc := 46) X 2 d_V_hasRoom_46 rfl rfl ?_
    refine z_cVNi (i := (29 + i1)) (pc := 47) X [.int _] (c_Re_sendsTo X.2.2.2.2.2.2.2.2.1 hi1 hw) (by decide) (by decide) lk92 cd_Re_sendsTo lk22 lk93 lk94 (lt_ix hi1 (by decide)) (cV_Re _ hi1) rfl nm_Re_sendsTo rfl rfl (Nat.le_of_ble_eq_true rfl) d_V_hasRoom_47 (fun r4 h5 hw => ?_)
    refine z_iadd (pc := 50) X d_V_hasRoom_50 ?_
    refine z_istore_n (pc := 51) X d_V_hasRoom_51 rfl (by decide) rfl ?_
    refine z_iload_n (pc := 52) X 0 d_V_hasRoom_52 rfl rfl ?_
    refine z_bipush (v := (6 : Int32)) (pc := 53) X d_V_hasRoom_53 (by decide) ?_
    refine z_icmp_le (tgt := 60) (pc := 55) X d_V_hasRoom_55 (by decide) (fun hc => ?_) (fun hc => ?_)
    · have hw := hw.1 hc
      refine z_iinc (v := (x2 + 1)) (pc := 60) X 3 d_V_hasRoom_60 rfl rfl (by decide) rfl ?_
      refine z_goto (tgt := 22) (pc := 63) X d_V_hasRoom_63 (by decide) ?_
      exact z_to [2, 3, 0] rfl (hK22 _ _ _ hi1 hw)
    · have hw := hw.2 hc
      refine z_iconst (v := (0 : Int32)) (pc := 58) X d_V_hasRoom_58 (by decide) ?_
      exact z_zret (pc := 59) X hw.1 d_V_hasRoom_59 hw.2
theorem kl_V_hasRoom_22 {Q : Int32 → RS → Prop} (X : Cx p l R s m args meth c b_V_hasRoom 4 R_V (some .boolean) D clV (tyV q) a 101 1 23 tbW) : ∀ (n : Nat) (h : RS) (i1 : Nat) (x2 : Int32), i1 < 8 → wp_V_hasRoom_22 Q n h i1 x2 → Z p l e R s m args below meth c D clV 101 a (ceV a q) 4 (MQ below (va_Qi Q (AtC D clV 101 a (ceV a q)) (inW a 101)) args s 0 0 (inW a 101)) h 22 [(0, .ref (a 0)), (1, .ref (a (29 + i1))), (2, .int x2)] [] := by
  intro n
  induction n with
  | zero =>
    intro h i1 x2 hi1 hw
    exact hw.elim
  | succ n ih =>
    intro h i1 x2 hi1 hw
    exact kb_V_hasRoom_22 X ih hi1 hw
set_option maxHeartbeats 4000000 in
set_option maxRecDepth 100000 in
theorem kb_V_hasRoom_0 {Q : Int32 → RS → Prop} (X : Cx p l R s m args meth c b_V_hasRoom 4 R_V (some .boolean) D clV (tyV q) a 101 1 23 tbW) {h : RS} {i1 : Nat} (hi1 : i1 < 8) (hw : bp_V_hasRoom_0 Q h i1) : Z p l e R s m args below meth c D clV 101 a (ceV a q) 4 (MQ below (va_Qi Q (AtC D clV 101 a (ceV a q)) (inW a 101)) args s 0 0 (inW a 101)) h 0 [(0, .ref (a 0)), (1, .ref (a (29 + i1)))] [] := by
  unfold bp_V_hasRoom_0 at hw
  refine z_aload_n (pc := 0) X 0 d_V_hasRoom_0 rfl rfl ?_
  refine z_get (i := 0) (pc := 1) X (by decide) (cV_V _) rfl hin_V 5 (by decide) lk64 rfl rfl d_V_hasRoom_1 ?_
  refine z_getN (i := 3) (pc := 4) X (by decide) (cV_Msgs _) rfl hin_Ms 0 (by decide) lk74 rfl rfl d_V_hasRoom_4 ?_
  refine z_aload_n (pc := 7) X 1 d_V_hasRoom_7 rfl rfl ?_
  refine z_cVNi (i := (29 + i1)) (pc := 8) X [] (c_Re_sendCount X.2.2.2.2.2.2.2.2.1 hi1 hw) (by decide) (by decide) lk95 cd_Re_sendCount lk22 lk96 lk97 (lt_ix hi1 (by decide)) (cV_Re _ hi1) rfl nm_Re_sendCount rfl rfl (Nat.le_of_ble_eq_true rfl) d_V_hasRoom_8 (fun r6 h7 hw => ?_)
  refine z_iadd (pc := 11) X d_V_hasRoom_11 ?_
  refine z_sipush (v := (300 : Int32)) (pc := 12) X d_V_hasRoom_12 (by decide) ?_
  refine z_icmp_le (tgt := 20) (pc := 15) X d_V_hasRoom_15 (by decide) (fun hc => ?_) (fun hc => ?_)
  · have hw := hw.1 hc
    refine z_iconst (v := (0 : Int32)) (pc := 20) X d_V_hasRoom_20 (by decide) ?_
    refine z_istore_n (pc := 21) X d_V_hasRoom_21 rfl (by decide) rfl ?_
    obtain ⟨n8, hw⟩ := hw
    exact z_to [1, 2, 0] rfl (kl_V_hasRoom_22 X n8 _ _ _ hi1 hw)
  · have hw := hw.2 hc
    refine z_iconst (v := (0 : Int32)) (pc := 18) X d_V_hasRoom_18 (by decide) ?_
    exact z_zret (pc := 19) X hw.1 d_V_hasRoom_19 hw.2
theorem c_V_hasRoom {l : Launch} {D : va_G} {a : Nat → Nat} {q : Nat → ClassId} (hI : injW a 101) {h : RS} {i1 : Nat} (hi1 : i1 < 8) {Q : Int32 → RS → Prop} (hw : wp_V_hasRoom h i1 Q) : Met l y_V_hasRoom [.code y_V_hasRoom b_V_hasRoom 4 (some .boolean)] { frames := 1, cells := 0, slots := 0, locals := 23 } (va_Pc [.ref (a 0), .ref (a (29 + i1))] (PreC tbW D clV (tyV q) 101 a (ceV a q) h)) (va_Qi Q (AtC D clV 101 a (ceV a q)) (inW a 101)) 0 0 (inW a 101) :=
  m_of (by decide +kernel) hI tb_ok (Nat.le_of_ble_eq_true rfl) (fun p e R s m below meth c X => kb_V_hasRoom_0 X hi1 hw)
end
