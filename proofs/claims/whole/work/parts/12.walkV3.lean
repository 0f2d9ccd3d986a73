section
variable {p : Program} {l : Launch} {e : Env} {R : Room} {s : State} {m : MethodId} {args : Array Value} {below : List Frame} {meth : Method} {c : Code} {D : va_G} {a : Nat → Nat} {q : Nat → ClassId}
set_option maxHeartbeats 4000000 in
set_option maxRecDepth 100000 in
theorem kb_V_allRise_2 {Q : Int32 → RS → Prop} (X : Cx p l R s m args meth c b_V_allRise 3 R_V (some .boolean) D clV (tyV q) a 101 0 0 tbW) {K2 : RS → Int32 → Int32 → Prop} (hK2 : ∀ (h : RS) (x1 : Int32) (x2 : Int32), K2 h x1 x2 → Z p l e R s m args below meth c D clV 101 a (ceV a q) 3 (MQ below (va_Qi Q (AtC D clV 101 a (ceV a q)) (inW a 101)) args s 0 0 (inW a 101)) h 2 [(0, .ref (a 12)), (1, .int x1), (2, .int x2)] []) {h : RS} {x1 : Int32} {x2 : Int32} (hw : bp_V_allRise_2 K2 Q h x1 x2) : Z p l e R s m args below meth c D clV 101 a (ceV a q) 3 (MQ below (va_Qi Q (AtC D clV 101 a (ceV a q)) (inW a 101)) args s 0 0 (inW a 101)) h 2 [(0, .ref (a 12)), (1, .int x1), (2, .int x2)] [] := by
  unfold bp_V_allRise_2 at hw
  refine z_iload_n (pc := 2) X 2 d_V_allRise_2 rfl rfl ?_
  refine z_iload_n (pc := 3) X 1 d_V_allRise_3 rfl rfl ?_
  refine z_icmp_ge (tgt := 26) (pc := 4) X d_V_allRise_4 (by decide) (fun hc => ?_) (fun hc => ?_)
  · have hw := hw.1 hc
    refine z_iconst (v := (1 : Int32)) (pc := 26) X d_V_allRise_26 (by decide) ?_
    exact z_zret (pc := 27) X hw.1 d_V_allRise_27 hw.2
  · have hw := hw.2 hc
    refine z_aload_n (pc := 7) X 0 d_V_allRise_7 rfl rfl ?_
    refine z_iload_n (pc := 8) X 2 d_V_allRise_8 rfl rfl ?_
    refine z_iconst (v := (1 : Int32)) (pc := 9) X d_V_allRise_9 (by decide) ?_
    refine z_isub (pc := 10) X d_V_allRise_10 ?_
    obtain ⟨k1, hk1, ek1, hw⟩ := hw
    refine z_iald (i := 12) (pc := 11) X 0 (by decide) (cV_tVa _) rfl (by decide) hk1 ek1 d_V_allRise_11 ?_
    refine z_aload_n (pc := 12) X 0 d_V_allRise_12 rfl rfl ?_
    refine z_iload_n (pc := 13) X 2 d_V_allRise_13 rfl rfl ?_
    obtain ⟨k2, hk2, ek2, hw⟩ := hw
    refine z_iald (i := 12) (pc := 14) X 0 (by decide) (cV_tVa _) rfl (by decide) hk2 ek2 d_V_allRise_14 ?_
    refine z_icmp_lt (tgt := 20) (pc := 15) X d_V_allRise_15 (by decide) (fun hc => ?_) (fun hc => ?_)
    · have hw := hw.1 hc
      refine z_iinc (v := (x2 + 1)) (pc := 20) X 2 d_V_allRise_20 rfl rfl (by decide) rfl ?_
      refine z_goto (tgt := 2) (pc := 23) X d_V_allRise_23 (by decide) ?_
      exact z_to [1, 2, 0] rfl (hK2 _ _ _ hw)
    · have hw := hw.2 hc
      refine z_iconst (v := (0 : Int32)) (pc := 18) X d_V_allRise_18 (by decide) ?_
      exact z_zret (pc := 19) X hw.1 d_V_allRise_19 hw.2
theorem kl_V_allRise_2 {Q : Int32 → RS → Prop} (X : Cx p l R s m args meth c b_V_allRise 3 R_V (some .boolean) D clV (tyV q) a 101 0 0 tbW) : ∀ (n : Nat) (h : RS) (x1 : Int32) (x2 : Int32), wp_V_allRise_2 Q n h x1 x2 → Z p l e R s m args below meth c D clV 101 a (ceV a q) 3 (MQ below (va_Qi Q (AtC D clV 101 a (ceV a q)) (inW a 101)) args s 0 0 (inW a 101)) h 2 [(0, .ref (a 12)), (1, .int x1), (2, .int x2)] [] := by
  intro n
  induction n with
  | zero =>
    intro h x1 x2 hw
    exact hw.elim
  | succ n ih =>
    intro h x1 x2 hw
    exact kb_V_allRise_2 X ih hw
set_option maxHeartbeats 4000000 in
set_option maxRecDepth 100000 in
theorem kb_V_allRise_0 {Q : Int32 → RS → Prop} (X : Cx p l R s m args meth c b_V_allRise 3 R_V (some .boolean) D clV (tyV q) a 101 0 0 tbW) {h : RS} {x1 : Int32} (hw : bp_V_allRise_0 Q h x1) : Z p l e R s m args below meth c D clV 101 a (ceV a q) 3 (MQ below (va_Qi Q (AtC D clV 101 a (ceV a q)) (inW a 101)) args s 0 0 (inW a 101)) h 0 [(0, .ref (a 12)), (1, .int x1)] [] := by
  unfold bp_V_allRise_0 at hw
  refine z_iconst (v := (1 : Int32)) (pc := 0) X d_V_allRise_0 (by decide) ?_
  refine z_istore_n (pc := 1) X d_V_allRise_1 rfl (by decide) rfl ?_
  obtain ⟨n3, hw⟩ := hw
  exact z_to [1, 2, 0] rfl (kl_V_allRise_2 X n3 _ _ _ hw)
theorem c_V_allRise {l : Launch} {D : va_G} {a : Nat → Nat} {q : Nat → ClassId} (hI : injW a 101) {h : RS} {x1 : Int32} {Q : Int32 → RS → Prop} (hw : wp_V_allRise h x1 Q) : Met l y_V_allRise [.code y_V_allRise b_V_allRise 3 (some .boolean)] { frames := 0, cells := 0, slots := 0, locals := 0 } (va_Pc [.ref (a 12), .int x1] (PreC tbW D clV (tyV q) 101 a (ceV a q) h)) (va_Qi Q (AtC D clV 101 a (ceV a q)) (inW a 101)) 0 0 (inW a 101) :=
  m_of (by decide +kernel) hI tb_ok (Nat.le_of_ble_eq_true rfl) (fun p e R s m below meth c X => kb_V_allRise_0 X hw)
set_option maxHeartbeats 4000000 in
set_option maxRecDepth 100000 in
theorem kb_V_allEqual_2 {Q : Int32 → RS → Prop} (X : Cx p l R s m args meth c b_V_allEqual 3 R_V (some .boolean) D clV (tyV q) a 101 0 0 tbW) {K2 : RS → Int32 → Int32 → Prop} (hK2 : ∀ (h : RS) (x1 : Int32) (x2 : Int32), K2 h x1 x2 → Z p l e R s m args below meth c D clV 101 a (ceV a q) 3 (MQ below (va_Qi Q (AtC D clV 101 a (ceV a q)) (inW a 101)) args s 0 0 (inW a 101)) h 2 [(0, .ref (a 12)), (1, .int x1), (2, .int x2)] []) {h : RS} {x1 : Int32} {x2 : Int32} (hw : bp_V_allEqual_2 K2 Q h x1 x2) : Z p l e R s m args below meth c D clV 101 a (ceV a q) 3 (MQ below (va_Qi Q (AtC D clV 101 a (ceV a q)) (inW a 101)) args s 0 0 (inW a 101)) h 2 [(0, .ref (a 12)), (1, .int x1), (2, .int x2)] [] := by
  unfold bp_V_allEqual_2 at hw
  refine z_iload_n (pc := 2) X 2 d_V_allEqual_2 rfl rfl ?_
  refine z_iload_n (pc := 3) X 1 d_V_allEqual_3 rfl rfl ?_
  refine z_icmp_ge (tgt := 24) (pc := 4) X d_V_allEqual_4 (by decide) (fun hc => ?_) (fun hc => ?_)
  · have hw := hw.1 hc
    refine z_iconst (v := (1 : Int32)) (pc := 24) X d_V_allEqual_24 (by decide) ?_
    exact z_zret (pc := 25) X hw.1 d_V_allEqual_25 hw.2
  · have hw := hw.2 hc
    refine z_aload_n (pc := 7) X 0 d_V_allEqual_7 rfl rfl ?_
    refine z_iload_n (pc := 8) X 2 d_V_allEqual_8 rfl rfl ?_
    obtain ⟨k1, hk1, ek1, hw⟩ := hw
    refine z_iald (i := 12) (pc := 9) X 0 (by decide) (cV_tVa _) rfl (by decide) hk1 ek1 d_V_allEqual_9 ?_
    refine z_aload_n (pc := 10) X 0 d_V_allEqual_10 rfl rfl ?_
    refine z_iconst (v := (0 : Int32)) (pc := 11) X d_V_allEqual_11 (by decide) ?_
    obtain ⟨k2, hk2, ek2, hw⟩ := hw
    refine z_iald (i := 12) (pc := 12) X 0 (by decide) (cV_tVa _) rfl (by decide) hk2 ek2 d_V_allEqual_12 ?_
    refine z_icmp_eq (tgt := 18) (pc := 13) X d_V_allEqual_13 (by decide) (fun hc => ?_) (fun hc => ?_)
    · have hw := hw.1 hc
      refine z_iinc (v := (x2 + 1)) (pc := 18) X 2 d_V_allEqual_18 rfl rfl (by decide) rfl ?_
      refine z_goto (tgt := 2) (pc := 21) X d_V_allEqual_21 (by decide) ?_
      exact z_to [1, 2, 0] rfl (hK2 _ _ _ hw)
    · have hw := hw.2 hc
      refine z_iconst (v := (0 : Int32)) (pc := 16) X d_V_allEqual_16 (by decide) ?_
      exact z_zret (pc := 17) X hw.1 d_V_allEqual_17 hw.2
theorem kl_V_allEqual_2 {Q : Int32 → RS → Prop} (X : Cx p l R s m args meth c b_V_allEqual 3 R_V (some .boolean) D clV (tyV q) a 101 0 0 tbW) : ∀ (n : Nat) (h : RS) (x1 : Int32) (x2 : Int32), wp_V_allEqual_2 Q n h x1 x2 → Z p l e R s m args below meth c D clV 101 a (ceV a q) 3 (MQ below (va_Qi Q (AtC D clV 101 a (ceV a q)) (inW a 101)) args s 0 0 (inW a 101)) h 2 [(0, .ref (a 12)), (1, .int x1), (2, .int x2)] [] := by
  intro n
  induction n with
  | zero =>
    intro h x1 x2 hw
    exact hw.elim
  | succ n ih =>
    intro h x1 x2 hw
    exact kb_V_allEqual_2 X ih hw
set_option maxHeartbeats 4000000 in
set_option maxRecDepth 100000 in
theorem kb_V_allEqual_0 {Q : Int32 → RS → Prop} (X : Cx p l R s m args meth c b_V_allEqual 3 R_V (some .boolean) D clV (tyV q) a 101 0 0 tbW) {h : RS} {x1 : Int32} (hw : bp_V_allEqual_0 Q h x1) : Z p l e R s m args below meth c D clV 101 a (ceV a q) 3 (MQ below (va_Qi Q (AtC D clV 101 a (ceV a q)) (inW a 101)) args s 0 0 (inW a 101)) h 0 [(0, .ref (a 12)), (1, .int x1)] [] := by
  unfold bp_V_allEqual_0 at hw
  refine z_iconst (v := (1 : Int32)) (pc := 0) X d_V_allEqual_0 (by decide) ?_
  refine z_istore_n (pc := 1) X d_V_allEqual_1 rfl (by decide) rfl ?_
  obtain ⟨n3, hw⟩ := hw
  exact z_to [1, 2, 0] rfl (kl_V_allEqual_2 X n3 _ _ _ hw)
theorem c_V_allEqual {l : Launch} {D : va_G} {a : Nat → Nat} {q : Nat → ClassId} (hI : injW a 101) {h : RS} {x1 : Int32} {Q : Int32 → RS → Prop} (hw : wp_V_allEqual h x1 Q) : Met l y_V_allEqual [.code y_V_allEqual b_V_allEqual 3 (some .boolean)] { frames := 0, cells := 0, slots := 0, locals := 0 } (va_Pc [.ref (a 12), .int x1] (PreC tbW D clV (tyV q) 101 a (ceV a q) h)) (va_Qi Q (AtC D clV 101 a (ceV a q)) (inW a 101)) 0 0 (inW a 101) :=
  m_of (by decide +kernel) hI tb_ok (Nat.le_of_ble_eq_true rfl) (fun p e R s m below meth c X => kb_V_allEqual_0 X hw)
set_option maxHeartbeats 4000000 in
set_option maxRecDepth 100000 in
theorem kb_V_allDiffer_9 {Q : Int32 → RS → Prop} (X : Cx p l R s m args meth c b_V_allDiffer 4 R_V (some .boolean) D clV (tyV q) a 101 0 0 tbW) {K2 : RS → Int32 → Int32 → Prop} (hK2 : ∀ (h : RS) (x1 : Int32) (x2 : Int32), K2 h x1 x2 → Z p l e R s m args below meth c D clV 101 a (ceV a q) 4 (MQ below (va_Qi Q (AtC D clV 101 a (ceV a q)) (inW a 101)) args s 0 0 (inW a 101)) h 2 [(0, .ref (a 12)), (1, .int x1), (2, .int x2)] []) {K9 : RS → Int32 → Int32 → Int32 → Prop} (hK9 : ∀ (h : RS) (x1 : Int32) (x2 : Int32) (x3 : Int32), K9 h x1 x2 x3 → Z p l e R s m args below meth c D clV 101 a (ceV a q) 4 (MQ below (va_Qi Q (AtC D clV 101 a (ceV a q)) (inW a 101)) args s 0 0 (inW a 101)) h 9 [(0, .ref (a 12)), (1, .int x1), (2, .int x2), (3, .int x3)] []) {h : RS} {x1 : Int32} {x2 : Int32} {x3 : Int32} (hw : bp_V_allDiffer_9 K2 K9 Q h x1 x2 x3) : Z p l e R s m args below meth c D clV 101 a (ceV a q) 4 (MQ below (va_Qi Q (AtC D clV 101 a (ceV a q)) (inW a 101)) args s 0 0 (inW a 101)) h 9 [(0, .ref (a 12)), (1, .int x1), (2, .int x2), (3, .int x3)] [] := by
  unfold bp_V_allDiffer_9 at hw
  refine z_iload_n (pc := 9) X 3 d_V_allDiffer_9 rfl rfl ?_
  refine z_iload_n (pc := 10) X 2 d_V_allDiffer_10 rfl rfl ?_
  refine z_icmp_ge (tgt := 31) (pc := 11) X d_V_allDiffer_11 (by decide) (fun hc => ?_) (fun hc => ?_)
  · have hw := hw.1 hc
    refine z_iinc (v := (x2 + 1)) (pc := 31) X 2 d_V_allDiffer_31 rfl rfl (by decide) rfl ?_
    refine z_goto (tgt := 2) (pc := 34) X d_V_allDiffer_34 (by decide) ?_
    exact z_to [1, 2, 0] rfl (hK2 _ _ _ hw)
  · have hw := hw.2 hc
    refine z_aload_n (pc := 14) X 0 d_V_allDiffer_14 rfl rfl ?_
    refine z_iload_n (pc := 15) X 2 d_V_allDiffer_15 rfl rfl ?_
    obtain ⟨k1, hk1, ek1, hw⟩ := hw
    refine z_iald (i := 12) (pc := 16) X 0 (by decide) (cV_tVa _) rfl (by decide) hk1 ek1 d_V_allDiffer_16 ?_
    refine z_aload_n (pc := 17) X 0 d_V_allDiffer_17 rfl rfl ?_
    refine z_iload_n (pc := 18) X 3 d_V_allDiffer_18 rfl rfl ?_
    obtain ⟨k2, hk2, ek2, hw⟩ := hw
    refine z_iald (i := 12) (pc := 19) X 0 (by decide) (cV_tVa _) rfl (by decide) hk2 ek2 d_V_allDiffer_19 ?_
    refine z_icmp_ne (tgt := 25) (pc := 20) X d_V_allDiffer_20 (by decide) (fun hc => ?_) (fun hc => ?_)
    · have hw := hw.1 hc
      refine z_iinc (v := (x3 + 1)) (pc := 25) X 3 d_V_allDiffer_25 rfl rfl (by decide) rfl ?_
      refine z_goto (tgt := 9) (pc := 28) X d_V_allDiffer_28 (by decide) ?_
      exact z_to [1, 2, 3, 0] rfl (hK9 _ _ _ _ hw)
    · have hw := hw.2 hc
      refine z_iconst (v := (0 : Int32)) (pc := 23) X d_V_allDiffer_23 (by decide) ?_
      exact z_zret (pc := 24) X hw.1 d_V_allDiffer_24 hw.2
theorem kl_V_allDiffer_9 {Q : Int32 → RS → Prop} (X : Cx p l R s m args meth c b_V_allDiffer 4 R_V (some .boolean) D clV (tyV q) a 101 0 0 tbW) {K2 : RS → Int32 → Int32 → Prop} (hK2 : ∀ (h : RS) (x1 : Int32) (x2 : Int32), K2 h x1 x2 → Z p l e R s m args below meth c D clV 101 a (ceV a q) 4 (MQ below (va_Qi Q (AtC D clV 101 a (ceV a q)) (inW a 101)) args s 0 0 (inW a 101)) h 2 [(0, .ref (a 12)), (1, .int x1), (2, .int x2)] []) : ∀ (n : Nat) (h : RS) (x1 : Int32) (x2 : Int32) (x3 : Int32), wp_V_allDiffer_9 K2 Q n h x1 x2 x3 → Z p l e R s m args below meth c D clV 101 a (ceV a q) 4 (MQ below (va_Qi Q (AtC D clV 101 a (ceV a q)) (inW a 101)) args s 0 0 (inW a 101)) h 9 [(0, .ref (a 12)), (1, .int x1), (2, .int x2), (3, .int x3)] [] := by
  intro n
  induction n with
  | zero =>
    intro h x1 x2 x3 hw
    exact hw.elim
  | succ n ih =>
    intro h x1 x2 x3 hw
    exact kb_V_allDiffer_9 X hK2 ih hw
set_option maxHeartbeats 4000000 in
set_option maxRecDepth 100000 in
theorem kb_V_allDiffer_2 {Q : Int32 → RS → Prop} (X : Cx p l R s m args meth c b_V_allDiffer 4 R_V (some .boolean) D clV (tyV q) a 101 0 0 tbW) {K2 : RS → Int32 → Int32 → Prop} (hK2 : ∀ (h : RS) (x1 : Int32) (x2 : Int32), K2 h x1 x2 → Z p l e R s m args below meth c D clV 101 a (ceV a q) 4 (MQ below (va_Qi Q (AtC D clV 101 a (ceV a q)) (inW a 101)) args s 0 0 (inW a 101)) h 2 [(0, .ref (a 12)), (1, .int x1), (2, .int x2)] []) {h : RS} {x1 : Int32} {x2 : Int32} (hw : bp_V_allDiffer_2 K2 Q h x1 x2) : Z p l e R s m args below meth c D clV 101 a (ceV a q) 4 (MQ below (va_Qi Q (AtC D clV 101 a (ceV a q)) (inW a 101)) args s 0 0 (inW a 101)) h 2 [(0, .ref (a 12)), (1, .int x1), (2, .int x2)] [] := by
  unfold bp_V_allDiffer_2 at hw
  refine z_iload_n (pc := 2) X 2 d_V_allDiffer_2 rfl rfl ?_
  refine z_iload_n (pc := 3) X 1 d_V_allDiffer_3 rfl rfl ?_
  refine z_icmp_ge (tgt := 37) (pc := 4) X d_V_allDiffer_4 (by decide) (fun hc => ?_) (fun hc => ?_)
  · have hw := hw.1 hc
    refine z_iconst (v := (1 : Int32)) (pc := 37) X d_V_allDiffer_37 (by decide) ?_
    exact z_zret (pc := 38) X hw.1 d_V_allDiffer_38 hw.2
  · have hw := hw.2 hc
    refine z_iconst (v := (0 : Int32)) (pc := 7) X d_V_allDiffer_7 (by decide) ?_
    refine z_istore_n (pc := 8) X d_V_allDiffer_8 rfl (by decide) rfl ?_
    obtain ⟨n3, hw⟩ := hw
    exact z_to [1, 2, 3, 0] rfl (kl_V_allDiffer_9 X hK2 n3 _ _ _ _ hw)
theorem kl_V_allDiffer_2 {Q : Int32 → RS → Prop} (X : Cx p l R s m args meth c b_V_allDiffer 4 R_V (some .boolean) D clV (tyV q) a 101 0 0 tbW) : ∀ (n : Nat) (h : RS) (x1 : Int32) (x2 : Int32), wp_V_allDiffer_2 Q n h x1 x2 → Z p l e R s m args below meth c D clV 101 a (ceV a q) 4 (MQ below (va_Qi Q (AtC D clV 101 a (ceV a q)) (inW a 101)) args s 0 0 (inW a 101)) h 2 [(0, .ref (a 12)), (1, .int x1), (2, .int x2)] [] := by
  intro n
  induction n with
  | zero =>
    intro h x1 x2 hw
    exact hw.elim
  | succ n ih =>
    intro h x1 x2 hw
    exact kb_V_allDiffer_2 X ih hw
set_option maxHeartbeats 4000000 in
set_option maxRecDepth 100000 in
theorem kb_V_allDiffer_0 {Q : Int32 → RS → Prop} (X : Cx p l R s m args meth c b_V_allDiffer 4 R_V (some .boolean) D clV (tyV q) a 101 0 0 tbW) {h : RS} {x1 : Int32} (hw : bp_V_allDiffer_0 Q h x1) : Z p l e R s m args below meth c D clV 101 a (ceV a q) 4 (MQ below (va_Qi Q (AtC D clV 101 a (ceV a q)) (inW a 101)) args s 0 0 (inW a 101)) h 0 [(0, .ref (a 12)), (1, .int x1)] [] := by
  unfold bp_V_allDiffer_0 at hw
  refine z_iconst (v := (1 : Int32)) (pc := 0) X d_V_allDiffer_0 (by decide) ?_
  refine z_istore_n (pc := 1) X d_V_allDiffer_1 rfl (by decide) rfl ?_
  obtain ⟨n4, hw⟩ := hw
  exact z_to [1, 2, 0] rfl (kl_V_allDiffer_2 X n4 _ _ _ hw)
theorem c_V_allDiffer {l : Launch} {D : va_G} {a : Nat → Nat} {q : Nat → ClassId} (hI : injW a 101) {h : RS} {x1 : Int32} {Q : Int32 → RS → Prop} (hw : wp_V_allDiffer h x1 Q) : Met l y_V_allDiffer [.code y_V_allDiffer b_V_allDiffer 4 (some .boolean)] { frames := 0, cells := 0, slots := 0, locals := 0 } (va_Pc [.ref (a 12), .int x1] (PreC tbW D clV (tyV q) 101 a (ceV a q) h)) (va_Qi Q (AtC D clV 101 a (ceV a q)) (inW a 101)) 0 0 (inW a 101) :=
  m_of (by decide +kernel) hI tb_ok (Nat.le_of_ble_eq_true rfl) (fun p e R s m below meth c X => kb_V_allDiffer_0 X hw)
set_option maxHeartbeats 4000000 in
set_option maxRecDepth 100000 in
theorem kb_V_sum_5 {Q : Int64 → RS → Prop} (X : Cx p l R s m args meth c b_V_sum 5 R_V (some .long) D clV (tyV q) a 101 0 0 tbW) {K5 : RS → Int32 → Int64 → Int32 → Prop} (hK5 : ∀ (h : RS) (x1 : Int32) (x2 : Int64) (x4 : Int32), K5 h x1 x2 x4 → Z p l e R s m args below meth c D clV 101 a (ceV a q) 5 (MQ below (va_Ql Q (AtC D clV 101 a (ceV a q)) (inW a 101)) args s 0 0 (inW a 101)) h 5 [(0, .ref (a 12)), (1, .int x1), (2, .long x2), (4, .int x4)] []) {h : RS} {x1 : Int32} {x2 : Int64} {x4 : Int32} (hw : bp_V_sum_5 K5 Q h x1 x2 x4) : Z p l e R s m args below meth c D clV 101 a (ceV a q) 5 (MQ below (va_Ql Q (AtC D clV 101 a (ceV a q)) (inW a 101)) args s 0 0 (inW a 101)) h 5 [(0, .ref (a 12)), (1, .int x1), (2, .long x2), (4, .int x4)] [] := by
  unfold bp_V_sum_5 at hw
  refine z_iload (pc := 5) X 3 d_V_sum_5 rfl ?_
  refine z_iload_n (pc := 7) X 1 d_V_sum_7 rfl rfl ?_
  refine z_icmp_ge (tgt := 25) (pc := 8) X d_V_sum_8 (by decide) (fun hc => ?_) (fun hc => ?_)
  · have hw := hw.1 hc
    refine z_lload_n (pc := 25) X 2 d_V_sum_25 rfl rfl ?_
    exact z_lret (pc := 26) X d_V_sum_26 hw
  · have hw := hw.2 hc
    refine z_lload_n (pc := 11) X 2 d_V_sum_11 rfl rfl ?_
    refine z_aload_n (pc := 12) X 0 d_V_sum_12 rfl rfl ?_
    refine z_iload (pc := 13) X 3 d_V_sum_13 rfl ?_
    obtain ⟨k1, hk1, ek1, hw⟩ := hw
    refine z_iald (i := 12) (pc := 15) X 0 (by decide) (cV_tVa _) rfl (by decide) hk1 ek1 d_V_sum_15 ?_
    refine z_i2l (pc := 16) X d_V_sum_16 ?_
    refine z_ladd (pc := 17) X d_V_sum_17 ?_
    refine z_lstore_n (pc := 18) X d_V_sum_18 rfl (by decide) rfl ?_
    refine z_iinc (v := (x4 + 1)) (pc := 19) X 3 d_V_sum_19 rfl rfl (by decide) rfl ?_
    refine z_goto (tgt := 5) (pc := 22) X d_V_sum_22 (by decide) ?_
    exact z_to [2, 3, 1, 0] rfl (hK5 _ _ _ _ hw)
theorem kl_V_sum_5 {Q : Int64 → RS → Prop} (X : Cx p l R s m args meth c b_V_sum 5 R_V (some .long) D clV (tyV q) a 101 0 0 tbW) : ∀ (n : Nat) (h : RS) (x1 : Int32) (x2 : Int64) (x4 : Int32), wp_V_sum_5 Q n h x1 x2 x4 → Z p l e R s m args below meth c D clV 101 a (ceV a q) 5 (MQ below (va_Ql Q (AtC D clV 101 a (ceV a q)) (inW a 101)) args s 0 0 (inW a 101)) h 5 [(0, .ref (a 12)), (1, .int x1), (2, .long x2), (4, .int x4)] [] := by
  intro n
  induction n with
  | zero =>
    intro h x1 x2 x4 hw
    exact hw.elim
  | succ n ih =>
    intro h x1 x2 x4 hw
    exact kb_V_sum_5 X ih hw
set_option maxHeartbeats 4000000 in
set_option maxRecDepth 100000 in
theorem kb_V_sum_0 {Q : Int64 → RS → Prop} (X : Cx p l R s m args meth c b_V_sum 5 R_V (some .long) D clV (tyV q) a 101 0 0 tbW) {h : RS} {x1 : Int32} (hw : bp_V_sum_0 Q h x1) : Z p l e R s m args below meth c D clV 101 a (ceV a q) 5 (MQ below (va_Ql Q (AtC D clV 101 a (ceV a q)) (inW a 101)) args s 0 0 (inW a 101)) h 0 [(0, .ref (a 12)), (1, .int x1)] [] := by
  unfold bp_V_sum_0 at hw
  refine z_lconst (v := (0 : Int64)) (pc := 0) X d_V_sum_0 (by decide) ?_
  refine z_lstore_n (pc := 1) X d_V_sum_1 rfl (by decide) rfl ?_
  refine z_iconst (v := (0 : Int32)) (pc := 2) X d_V_sum_2 (by decide) ?_
  refine z_istore (pc := 3) X d_V_sum_3 (by decide) rfl ?_
  obtain ⟨n2, hw⟩ := hw
  exact z_to [2, 3, 1, 0] rfl (kl_V_sum_5 X n2 _ _ _ _ hw)
theorem c_V_sum {l : Launch} {D : va_G} {a : Nat → Nat} {q : Nat → ClassId} (hI : injW a 101) {h : RS} {x1 : Int32} {Q : Int64 → RS → Prop} (hw : wp_V_sum h x1 Q) : Met l y_V_sum [.code y_V_sum b_V_sum 5 (some .long)] { frames := 0, cells := 0, slots := 0, locals := 0 } (va_Pc [.ref (a 12), .int x1] (PreC tbW D clV (tyV q) 101 a (ceV a q) h)) (va_Ql Q (AtC D clV 101 a (ceV a q)) (inW a 101)) 0 0 (inW a 101) :=
  m_of (by decide +kernel) hI tb_ok (Nat.le_of_ble_eq_true rfl) (fun p e R s m below meth c X => kb_V_sum_0 X hw)
set_option maxHeartbeats 4000000 in
set_option maxRecDepth 100000 in
theorem kb_Re_guardHolds_0 {Q : Int32 → RS → Prop} (X : Cx p l R s m args meth c b_Re_guardHolds 2 R_Re (some .boolean) D clV (tyV q) a 101 1 24 tbW) {h : RS} {i0 : Nat} (hi0 : i0 < 8) (hw : bp_Re_guardHolds_0 Q h i0) : Z p l e R s m args below meth c D clV 101 a (ceV a q) 2 (MQ below (va_Qi Q (AtC D clV 101 a (ceV a q)) (inW a 101)) args s 0 0 (inW a 101)) h 0 [(0, .ref (a (29 + i0))), (1, .ref (a 12))] [] := by
  unfold bp_Re_guardHolds_0 at hw
  refine z_aload_n (pc := 0) X 0 d_Re_guardHolds_0 rfl rfl ?_
  refine z_get (i := (29 + i0)) (pc := 1) X (lt_ix hi0 (by decide)) (cV_Re _ hi0) rfl hin_Re 4 (by decide) lk98 rfl rfl d_Re_guardHolds_1 ?_
  refine z_sw (k := 1) (fun ek => ?_) (fun ek1 => ?_)
  · have hw := hw.1 ek
    refine z_tableIn (tgt := 40) (pc := 4) X d_Re_guardHolds_4 (by rw [ek]; decide) (by rw [ek]; decide) (by rw [ek]; rfl) (by decide) ?_
    refine z_aload_n (pc := 40) X 1 d_Re_guardHolds_40 rfl rfl ?_
    refine z_aload_n (pc := 41) X 0 d_Re_guardHolds_41 rfl rfl ?_
    refine z_get (i := (29 + i0)) (pc := 42) X (lt_ix hi0 (by decide)) (cV_Re _ hi0) rfl hin_Re 0 (by decide) lk6 rfl rfl d_Re_guardHolds_42 ?_
    refine z_cSNi (pc := 45) X [.ref (a 12), .int _] (c_V_allRise X.2.2.2.2.2.2.2.2.1 hw) (by decide) (by decide) lk99 cd_V_allRise lk11 lk100 nm_V_allRise rfl rfl (Nat.le_of_ble_eq_true rfl) d_Re_guardHolds_45 (fun r1 h2 hw => ?_)
    exact z_zret (pc := 48) X hw.1 d_Re_guardHolds_48 hw.2
  have hw := hw.2
  refine z_sw (k := 2) (fun ek => ?_) (fun ek2 => ?_)
  · have hw := hw.1 ek
    refine z_tableIn (tgt := 49) (pc := 4) X d_Re_guardHolds_4 (by rw [ek]; decide) (by rw [ek]; decide) (by rw [ek]; rfl) (by decide) ?_
    refine z_aload_n (pc := 49) X 1 d_Re_guardHolds_49 rfl rfl ?_
    refine z_aload_n (pc := 50) X 0 d_Re_guardHolds_50 rfl rfl ?_
    refine z_get (i := (29 + i0)) (pc := 51) X (lt_ix hi0 (by decide)) (cV_Re _ hi0) rfl hin_Re 0 (by decide) lk6 rfl rfl d_Re_guardHolds_51 ?_
    refine z_cSNi (pc := 54) X [.ref (a 12), .int _] (c_V_allEqual X.2.2.2.2.2.2.2.2.1 hw) (by decide) (by decide) lk101 cd_V_allEqual lk11 lk102 nm_V_allEqual rfl rfl (Nat.le_of_ble_eq_true rfl) d_Re_guardHolds_54 (fun r3 h4 hw => ?_)
    exact z_zret (pc := 57) X hw.1 d_Re_guardHolds_57 hw.2
  have hw := hw.2
  refine z_sw (k := 3) (fun ek => ?_) (fun ek3 => ?_)
  · have hw := hw.1 ek
    refine z_tableIn (tgt := 58) (pc := 4) X d_Re_guardHolds_4 (by rw [ek]; decide) (by rw [ek]; decide) (by rw [ek]; rfl) (by decide) ?_
    refine z_aload_n (pc := 58) X 1 d_Re_guardHolds_58 rfl rfl ?_
    refine z_aload_n (pc := 59) X 0 d_Re_guardHolds_59 rfl rfl ?_
    refine z_get (i := (29 + i0)) (pc := 60) X (lt_ix hi0 (by decide)) (cV_Re _ hi0) rfl hin_Re 0 (by decide) lk6 rfl rfl d_Re_guardHolds_60 ?_
    refine z_cSNi (pc := 63) X [.ref (a 12), .int _] (c_V_allDiffer X.2.2.2.2.2.2.2.2.1 hw) (by decide) (by decide) lk103 cd_V_allDiffer lk11 lk104 nm_V_allDiffer rfl rfl (Nat.le_of_ble_eq_true rfl) d_Re_guardHolds_63 (fun r5 h6 hw => ?_)
    exact z_zret (pc := 66) X hw.1 d_Re_guardHolds_66 hw.2
  have hw := hw.2
  refine z_sw (k := 4) (fun ek => ?_) (fun ek4 => ?_)
  · have hw := hw.1 ek
    refine z_tableIn (tgt := 67) (pc := 4) X d_Re_guardHolds_4 (by rw [ek]; decide) (by rw [ek]; decide) (by rw [ek]; rfl) (by decide) ?_
    refine z_aload_n (pc := 67) X 1 d_Re_guardHolds_67 rfl rfl ?_
    refine z_aload_n (pc := 68) X 0 d_Re_guardHolds_68 rfl rfl ?_
    refine z_get (i := (29 + i0)) (pc := 69) X (lt_ix hi0 (by decide)) (cV_Re _ hi0) rfl hin_Re 0 (by decide) lk6 rfl rfl d_Re_guardHolds_69 ?_
    refine z_cSNl (pc := 72) X [.ref (a 12), .int _] (c_V_sum X.2.2.2.2.2.2.2.2.1 hw) (by decide) (by decide) lk105 cd_V_sum lk11 lk106 nm_V_sum rfl rfl (Nat.le_of_ble_eq_true rfl) d_Re_guardHolds_72 (fun r7 h8 hw => ?_)
    refine z_aload_n (pc := 75) X 0 d_Re_guardHolds_75 rfl rfl ?_
    refine z_get (i := (29 + i0)) (pc := 76) X (lt_ix hi0 (by decide)) (cV_Re _ hi0) rfl hin_Re 5 (by decide) lk107 rfl rfl d_Re_guardHolds_76 ?_
    refine z_i2l (pc := 79) X d_Re_guardHolds_79 ?_
    refine z_lcmp (pc := 80) X d_Re_guardHolds_80 ?_
    refine z_if_gt (tgt := 88) (pc := 81) X d_Re_guardHolds_81 (by decide) (fun hc => ?_) (fun hc => ?_)
    · have hw := hw.1 hc
      refine z_iconst (v := (0 : Int32)) (pc := 88) X d_Re_guardHolds_88 (by decide) ?_
      exact z_zret (pc := 89) X hw.1 d_Re_guardHolds_89 hw.2
    · have hw := hw.2 hc
      refine z_iconst (v := (1 : Int32)) (pc := 84) X d_Re_guardHolds_84 (by decide) ?_
      refine z_goto (tgt := 89) (pc := 85) X d_Re_guardHolds_85 (by decide) ?_
      exact z_zret (pc := 89) X hw.1 d_Re_guardHolds_89 hw.2
  have hw := hw.2
  refine z_sw (k := 5) (fun ek => ?_) (fun ek5 => ?_)
  · have hw := hw.1 ek
    refine z_tableIn (tgt := 90) (pc := 4) X d_Re_guardHolds_4 (by rw [ek]; decide) (by rw [ek]; decide) (by rw [ek]; rfl) (by decide) ?_
    refine z_aload_n (pc := 90) X 0 d_Re_guardHolds_90 rfl rfl ?_
    refine z_get (i := (29 + i0)) (pc := 91) X (lt_ix hi0 (by decide)) (cV_Re _ hi0) rfl hin_Re 5 (by decide) lk107 rfl rfl d_Re_guardHolds_91 ?_
    refine z_if_eq (tgt := 120) (pc := 94) X d_Re_guardHolds_94 (by decide) (fun hc => ?_) (fun hc => ?_)
    · have hw := hw.1 hc
      refine z_iconst (v := (0 : Int32)) (pc := 120) X d_Re_guardHolds_120 (by decide) ?_
      exact z_zret (pc := 121) X hw.1 d_Re_guardHolds_121 hw.2
    · have hw := hw.2 hc
      refine z_aload_n (pc := 97) X 1 d_Re_guardHolds_97 rfl rfl ?_
      refine z_aload_n (pc := 98) X 0 d_Re_guardHolds_98 rfl rfl ?_
      refine z_get (i := (29 + i0)) (pc := 99) X (lt_ix hi0 (by decide)) (cV_Re _ hi0) rfl hin_Re 0 (by decide) lk6 rfl rfl d_Re_guardHolds_99 ?_
      refine z_cSNl (pc := 102) X [.ref (a 12), .int _] (c_V_sum X.2.2.2.2.2.2.2.2.1 hw) (by decide) (by decide) lk105 cd_V_sum lk11 lk106 nm_V_sum rfl rfl (Nat.le_of_ble_eq_true rfl) d_Re_guardHolds_102 (fun r9 h10 hw => ?_)
      refine z_aload_n (pc := 105) X 0 d_Re_guardHolds_105 rfl rfl ?_
      refine z_get (i := (29 + i0)) (pc := 106) X (lt_ix hi0 (by decide)) (cV_Re _ hi0) rfl hin_Re 5 (by decide) lk107 rfl rfl d_Re_guardHolds_106 ?_
      refine z_i2l (pc := 109) X d_Re_guardHolds_109 ?_
      obtain ⟨hne, hw⟩ := hw
      refine z_lrem (pc := 110) X d_Re_guardHolds_110 hne ?_
      refine z_lconst (v := (0 : Int64)) (pc := 111) X d_Re_guardHolds_111 (by decide) ?_
      refine z_lcmp (pc := 112) X d_Re_guardHolds_112 ?_
      refine z_if_ne (tgt := 120) (pc := 113) X d_Re_guardHolds_113 (by decide) (fun hc => ?_) (fun hc => ?_)
      · have hw := hw.1 hc
        refine z_iconst (v := (0 : Int32)) (pc := 120) X d_Re_guardHolds_120 (by decide) ?_
        exact z_zret (pc := 121) X hw.1 d_Re_guardHolds_121 hw.2
      · have hw := hw.2 hc
        refine z_iconst (v := (1 : Int32)) (pc := 116) X d_Re_guardHolds_116 (by decide) ?_
        refine z_goto (tgt := 121) (pc := 117) X d_Re_guardHolds_117 (by decide) ?_
        exact z_zret (pc := 121) X hw.1 d_Re_guardHolds_121 hw.2
  have hw := hw.2
  have hw := hw ek1 ek2 ek3 ek4 ek5
  refine z_tableOut (tgt := 122) (pc := 4) X d_Re_guardHolds_4 (sw_1_5 ek1 ek2 ek3 ek4 ek5) (by decide) ?_
  refine z_iconst (v := (1 : Int32)) (pc := 122) X d_Re_guardHolds_122 (by decide) ?_
  exact z_zret (pc := 123) X hw.1 d_Re_guardHolds_123 hw.2
theorem c_Re_guardHolds {l : Launch} {D : va_G} {a : Nat → Nat} {q : Nat → ClassId} (hI : injW a 101) {h : RS} {i0 : Nat} (hi0 : i0 < 8) {Q : Int32 → RS → Prop} (hw : wp_Re_guardHolds h i0 Q) : Met l y_Re_guardHolds [.code y_Re_guardHolds b_Re_guardHolds 2 (some .boolean)] { frames := 1, cells := 0, slots := 0, locals := 24 } (va_Pc [.ref (a (29 + i0)), .ref (a 12)] (PreC tbW D clV (tyV q) 101 a (ceV a q) h)) (va_Qi Q (AtC D clV 101 a (ceV a q)) (inW a 101)) 0 0 (inW a 101) :=
  m_of (by decide +kernel) hI tb_ok (Nat.le_of_ble_eq_true rfl) (fun p e R s m below meth c X => kb_Re_guardHolds_0 X hi0 hw)
set_option maxHeartbeats 4000000 in
set_option maxRecDepth 100000 in
theorem kb_Re_passesTest_0 {Q : Int32 → RS → Prop} (X : Cx p l R s m args meth c b_Re_passesTest 4 R_Re (some .boolean) D clV (tyV q) a 101 0 0 tbW) {h : RS} {i0 : Nat} {x1 : Int32} {x2 : Int32} (hi0 : i0 < 8) (hw : bp_Re_passesTest_0 Q h i0 x1 x2) : Z p l e R s m args below meth c D clV 101 a (ceV a q) 4 (MQ below (va_Qi Q (AtC D clV 101 a (ceV a q)) (inW a 101)) args s 0 0 (inW a 101)) h 0 [(0, .ref (a (29 + i0))), (1, .int x1), (2, .int x2)] [] := by
  unfold bp_Re_passesTest_0 at hw
  refine z_aload_n (pc := 0) X 0 d_Re_passesTest_0 rfl rfl ?_
  refine z_get (i := (29 + i0)) (pc := 1) X (lt_ix hi0 (by decide)) (cV_Re _ hi0) rfl hin_Re 3 (by decide) lk9 rfl rfl d_Re_passesTest_1 ?_
  refine z_iload_n (pc := 4) X 1 d_Re_passesTest_4 rfl rfl ?_
  obtain ⟨k1, hk1, ek1, hw⟩ := hw
  refine z_iald (i := (53 + i0)) (pc := 5) X 0 (lt_ix hi0 (by decide)) (cV_pN _ hi0) rfl (by decide) hk1 ek1 d_Re_passesTest_5 ?_
  refine z_istore_n (pc := 6) X d_Re_passesTest_6 rfl (by decide) rfl ?_
  refine z_aload_n (pc := 7) X 1 d_Re_passesTest_7 rfl rfl ?_
  refine z_get (i := (29 + i0)) (pc := 8) X (lt_ix hi0 (by decide)) (cV_Re _ hi0) rfl hin_Re 2 (by decide) lk8 rfl rfl d_Re_passesTest_8 ?_
  refine z_iload_n (pc := 11) X 2 d_Re_passesTest_11 rfl rfl ?_
  obtain ⟨k2, hk2, ek2, hw⟩ := hw
  refine z_iald (i := (45 + i0)) (pc := 12) X 0 (lt_ix hi0 (by decide)) (cV_pT _ hi0) rfl (by decide) hk2 ek2 d_Re_passesTest_12 ?_
  refine z_sw (k := 1) (fun ek => ?_) (fun ek1 => ?_)
  · have hw := hw.1 ek
    refine z_tableIn (tgt := 44) (pc := 13) X d_Re_passesTest_13 (by rw [ek]; decide) (by rw [ek]; decide) (by rw [ek]; rfl) (by decide) ?_
    refine z_iload_n (pc := 44) X 3 d_Re_passesTest_44 rfl rfl ?_
    refine z_iload_n (pc := 45) X 0 d_Re_passesTest_45 rfl rfl ?_
    refine z_icmp_ne (tgt := 53) (pc := 46) X d_Re_passesTest_46 (by decide) (fun hc => ?_) (fun hc => ?_)
    · have hw := hw.1 hc
      refine z_iconst (v := (0 : Int32)) (pc := 53) X d_Re_passesTest_53 (by decide) ?_
      exact z_zret (pc := 54) X hw.1 d_Re_passesTest_54 hw.2
    · have hw := hw.2 hc
      refine z_iconst (v := (1 : Int32)) (pc := 49) X d_Re_passesTest_49 (by decide) ?_
      refine z_goto (tgt := 54) (pc := 50) X d_Re_passesTest_50 (by decide) ?_
      exact z_zret (pc := 54) X hw.1 d_Re_passesTest_54 hw.2
  have hw := hw.2
  refine z_sw (k := 2) (fun ek => ?_) (fun ek2 => ?_)
  · have hw := hw.1 ek
    refine z_tableIn (tgt := 55) (pc := 13) X d_Re_passesTest_13 (by rw [ek]; decide) (by rw [ek]; decide) (by rw [ek]; rfl) (by decide) ?_
    refine z_iload_n (pc := 55) X 3 d_Re_passesTest_55 rfl rfl ?_
    refine z_iload_n (pc := 56) X 0 d_Re_passesTest_56 rfl rfl ?_
    refine z_icmp_ge (tgt := 64) (pc := 57) X d_Re_passesTest_57 (by decide) (fun hc => ?_) (fun hc => ?_)
    · have hw := hw.1 hc
      refine z_iconst (v := (0 : Int32)) (pc := 64) X d_Re_passesTest_64 (by decide) ?_
      exact z_zret (pc := 65) X hw.1 d_Re_passesTest_65 hw.2
    · have hw := hw.2 hc
      refine z_iconst (v := (1 : Int32)) (pc := 60) X d_Re_passesTest_60 (by decide) ?_
      refine z_goto (tgt := 65) (pc := 61) X d_Re_passesTest_61 (by decide) ?_
      exact z_zret (pc := 65) X hw.1 d_Re_passesTest_65 hw.2
  have hw := hw.2
  refine z_sw (k := 3) (fun ek => ?_) (fun ek3 => ?_)
  · have hw := hw.1 ek
    refine z_tableIn (tgt := 66) (pc := 13) X d_Re_passesTest_13 (by rw [ek]; decide) (by rw [ek]; decide) (by rw [ek]; rfl) (by decide) ?_
    refine z_iload_n (pc := 66) X 3 d_Re_passesTest_66 rfl rfl ?_
    refine z_iload_n (pc := 67) X 0 d_Re_passesTest_67 rfl rfl ?_
    refine z_icmp_lt (tgt := 75) (pc := 68) X d_Re_passesTest_68 (by decide) (fun hc => ?_) (fun hc => ?_)
    · have hw := hw.1 hc
      refine z_iconst (v := (0 : Int32)) (pc := 75) X d_Re_passesTest_75 (by decide) ?_
      exact z_zret (pc := 76) X hw.1 d_Re_passesTest_76 hw.2
    · have hw := hw.2 hc
      refine z_iconst (v := (1 : Int32)) (pc := 71) X d_Re_passesTest_71 (by decide) ?_
      refine z_goto (tgt := 76) (pc := 72) X d_Re_passesTest_72 (by decide) ?_
      exact z_zret (pc := 76) X hw.1 d_Re_passesTest_76 hw.2
  have hw := hw.2
  refine z_sw (k := 4) (fun ek => ?_) (fun ek4 => ?_)
  · have hw := hw.1 ek
    refine z_tableIn (tgt := 77) (pc := 13) X d_Re_passesTest_13 (by rw [ek]; decide) (by rw [ek]; decide) (by rw [ek]; rfl) (by decide) ?_
    refine z_iload_n (pc := 77) X 3 d_Re_passesTest_77 rfl rfl ?_
    refine z_iload_n (pc := 78) X 0 d_Re_passesTest_78 rfl rfl ?_
    refine z_iand (pc := 79) X d_Re_passesTest_79 ?_
    refine z_if_eq (tgt := 87) (pc := 80) X d_Re_passesTest_80 (by decide) (fun hc => ?_) (fun hc => ?_)
    · have hw := hw.1 hc
      refine z_iconst (v := (0 : Int32)) (pc := 87) X d_Re_passesTest_87 (by decide) ?_
      exact z_zret (pc := 88) X hw.1 d_Re_passesTest_88 hw.2
    · have hw := hw.2 hc
      refine z_iconst (v := (1 : Int32)) (pc := 83) X d_Re_passesTest_83 (by decide) ?_
      refine z_goto (tgt := 88) (pc := 84) X d_Re_passesTest_84 (by decide) ?_
      exact z_zret (pc := 88) X hw.1 d_Re_passesTest_88 hw.2
  have hw := hw.2
  have hw := hw ek1 ek2 ek3 ek4
  refine z_tableOut (tgt := 89) (pc := 13) X d_Re_passesTest_13 (sw_1_4 ek1 ek2 ek3 ek4) (by decide) ?_
  refine z_iconst (v := (1 : Int32)) (pc := 89) X d_Re_passesTest_89 (by decide) ?_
  exact z_zret (pc := 90) X hw.1 d_Re_passesTest_90 hw.2
theorem c_Re_passesTest {l : Launch} {D : va_G} {a : Nat → Nat} {q : Nat → ClassId} (hI : injW a 101) {h : RS} {i0 : Nat} {x1 : Int32} {x2 : Int32} (hi0 : i0 < 8) {Q : Int32 → RS → Prop} (hw : wp_Re_passesTest h i0 x1 x2 Q) : Met l y_Re_passesTest [.code y_Re_passesTest b_Re_passesTest 4 (some .boolean)] { frames := 0, cells := 0, slots := 0, locals := 0 } (va_Pc [.ref (a (29 + i0)), .int x1, .int x2] (PreC tbW D clV (tyV q) 101 a (ceV a q) h)) (va_Qi Q (AtC D clV 101 a (ceV a q)) (inW a 101)) 0 0 (inW a 101) :=
  m_of (by decide +kernel) hI tb_ok (Nat.le_of_ble_eq_true rfl) (fun p e R s m below meth c X => kb_Re_passesTest_0 X hi0 hw)
set_option maxHeartbeats 4000000 in
set_option maxRecDepth 100000 in
theorem kb_Mt_holdsBefore_2 {Q : Int32 → RS → Prop} (X : Cx p l R s m args meth c b_Mt_holdsBefore 4 R_Mt (some .boolean) D clV (tyV q) a 101 0 0 tbW) {K2 : RS → Int32 → Int32 → Int32 → Prop} (hK2 : ∀ (h : RS) (x1 : Int32) (x2 : Int32) (x3 : Int32), K2 h x1 x2 x3 → Z p l e R s m args below meth c D clV 101 a (ceV a q) 4 (MQ below (va_Qi Q (AtC D clV 101 a (ceV a q)) (inW a 101)) args s 0 0 (inW a 101)) h 2 [(0, .ref (a 4)), (1, .int x1), (2, .int x2), (3, .int x3)] []) {h : RS} {x1 : Int32} {x2 : Int32} {x3 : Int32} (hw : bp_Mt_holdsBefore_2 K2 Q h x1 x2 x3) : Z p l e R s m args below meth c D clV 101 a (ceV a q) 4 (MQ below (va_Qi Q (AtC D clV 101 a (ceV a q)) (inW a 101)) args s 0 0 (inW a 101)) h 2 [(0, .ref (a 4)), (1, .int x1), (2, .int x2), (3, .int x3)] [] := by
  unfold bp_Mt_holdsBefore_2 at hw
  refine z_iload_n (pc := 2) X 3 d_Mt_holdsBefore_2 rfl rfl ?_
  refine z_iload_n (pc := 3) X 1 d_Mt_holdsBefore_3 rfl rfl ?_
  refine z_icmp_ge (tgt := 25) (pc := 4) X d_Mt_holdsBefore_4 (by decide) (fun hc => ?_) (fun hc => ?_)
  · have hw := hw.1 hc
    refine z_iconst (v := (0 : Int32)) (pc := 25) X d_Mt_holdsBefore_25 (by decide) ?_
    exact z_zret (pc := 26) X hw.1 d_Mt_holdsBefore_26 hw.2
  · have hw := hw.2 hc
    refine z_aload_n (pc := 7) X 0 d_Mt_holdsBefore_7 rfl rfl ?_
    refine z_get (i := 4) (pc := 8) X (by decide) (cV_Mat _) rfl hin_Mt 0 (by decide) lk108 rfl rfl d_Mt_holdsBefore_8 ?_
    refine z_iload_n (pc := 11) X 3 d_Mt_holdsBefore_11 rfl rfl ?_
    obtain ⟨k1, hk1, ek1, hw⟩ := hw
    refine z_iald (i := 11) (pc := 12) X 0 (by decide) (cV_tNu _) rfl (by decide) hk1 ek1 d_Mt_holdsBefore_12 ?_
    refine z_iload_n (pc := 13) X 2 d_Mt_holdsBefore_13 rfl rfl ?_
    refine z_icmp_ne (tgt := 19) (pc := 14) X d_Mt_holdsBefore_14 (by decide) (fun hc => ?_) (fun hc => ?_)
    · have hw := hw.1 hc
      refine z_iinc (v := (x3 + 1)) (pc := 19) X 3 d_Mt_holdsBefore_19 rfl rfl (by decide) rfl ?_
      refine z_goto (tgt := 2) (pc := 22) X d_Mt_holdsBefore_22 (by decide) ?_
      exact z_to [1, 2, 3, 0] rfl (hK2 _ _ _ _ hw)
    · have hw := hw.2 hc
      refine z_iconst (v := (1 : Int32)) (pc := 17) X d_Mt_holdsBefore_17 (by decide) ?_
      exact z_zret (pc := 18) X hw.1 d_Mt_holdsBefore_18 hw.2
theorem kl_Mt_holdsBefore_2 {Q : Int32 → RS → Prop} (X : Cx p l R s m args meth c b_Mt_holdsBefore 4 R_Mt (some .boolean) D clV (tyV q) a 101 0 0 tbW) : ∀ (n : Nat) (h : RS) (x1 : Int32) (x2 : Int32) (x3 : Int32), wp_Mt_holdsBefore_2 Q n h x1 x2 x3 → Z p l e R s m args below meth c D clV 101 a (ceV a q) 4 (MQ below (va_Qi Q (AtC D clV 101 a (ceV a q)) (inW a 101)) args s 0 0 (inW a 101)) h 2 [(0, .ref (a 4)), (1, .int x1), (2, .int x2), (3, .int x3)] [] := by
  intro n
  induction n with
  | zero =>
    intro h x1 x2 x3 hw
    exact hw.elim
  | succ n ih =>
    intro h x1 x2 x3 hw
    exact kb_Mt_holdsBefore_2 X ih hw
set_option maxHeartbeats 4000000 in
set_option maxRecDepth 100000 in
theorem kb_Mt_holdsBefore_0 {Q : Int32 → RS → Prop} (X : Cx p l R s m args meth c b_Mt_holdsBefore 4 R_Mt (some .boolean) D clV (tyV q) a 101 0 0 tbW) {h : RS} {x1 : Int32} {x2 : Int32} (hw : bp_Mt_holdsBefore_0 Q h x1 x2) : Z p l e R s m args below meth c D clV 101 a (ceV a q) 4 (MQ below (va_Qi Q (AtC D clV 101 a (ceV a q)) (inW a 101)) args s 0 0 (inW a 101)) h 0 [(0, .ref (a 4)), (1, .int x1), (2, .int x2)] [] := by
  unfold bp_Mt_holdsBefore_0 at hw
  refine z_iconst (v := (0 : Int32)) (pc := 0) X d_Mt_holdsBefore_0 (by decide) ?_
  refine z_istore_n (pc := 1) X d_Mt_holdsBefore_1 rfl (by decide) rfl ?_
  obtain ⟨n2, hw⟩ := hw
  exact z_to [1, 2, 3, 0] rfl (kl_Mt_holdsBefore_2 X n2 _ _ _ _ hw)
theorem c_Mt_holdsBefore {l : Launch} {D : va_G} {a : Nat → Nat} {q : Nat → ClassId} (hI : injW a 101) {h : RS} {x1 : Int32} {x2 : Int32} {Q : Int32 → RS → Prop} (hw : wp_Mt_holdsBefore h x1 x2 Q) : Met l y_Mt_holdsBefore [.code y_Mt_holdsBefore b_Mt_holdsBefore 4 (some .boolean)] { frames := 0, cells := 0, slots := 0, locals := 0 } (va_Pc [.ref (a 4), .int x1, .int x2] (PreC tbW D clV (tyV q) 101 a (ceV a q) h)) (va_Qi Q (AtC D clV 101 a (ceV a q)) (inW a 101)) 0 0 (inW a 101) :=
  m_of (by decide +kernel) hI tb_ok (Nat.le_of_ble_eq_true rfl) (fun p e R s m below meth c X => kb_Mt_holdsBefore_0 X hw)
set_option maxHeartbeats 4000000 in
set_option maxRecDepth 100000 in
theorem kb_V_fillMatch_38 {Q : Int32 → RS → Prop} {dd : Nat} (X : Cx p l R s m args meth c b_V_fillMatch 9 R_V (some .boolean) D clV (tyV q) a 101 (2 + (dd + 1)) (45 + (dd + 1) * 28) tbW) {Rc : RS → Nat → Int32 → (Int32 → RS → Prop) → Prop} (hRc : ∀ (h : RS) (i1 : Nat) (x4 : Int32) (Q : Int32 → RS → Prop), i1 < 8 → Rc h i1 x4 Q → Met l y_V_fillMatch [.code y_V_fillMatch b_V_fillMatch 9 (some .boolean)] { frames := 2 + dd, cells := 0, slots := 0, locals := 45 + dd * 28 } (va_Pc [.ref (a 4), .ref (a (29 + i1)), .ref (a 1), .ref (a 3), .int x4] (PreC tbW D clV (tyV q) 101 a (ceV a q) h)) (va_Qi Q (AtC D clV 101 a (ceV a q)) (inW a 101)) 0 0 (inW a 101)) {K38 : RS → Nat → Int32 → Nat → Int32 → Prop} (hK38 : ∀ (h : RS) (i1 : Nat) (x4 : Int32) (i5 : Nat) (x6 : Int32), i1 < 8 → i5 < 8 → K38 h i1 x4 i5 x6 → Z p l e R s m args below meth c D clV 101 a (ceV a q) 9 (MQ below (va_Qi Q (AtC D clV 101 a (ceV a q)) (inW a 101)) args s 0 0 (inW a 101)) h 38 [(0, .ref (a 4)), (1, .ref (a (29 + i1))), (2, .ref (a 1)), (3, .ref (a 3)), (4, .int x4), (5, .ref (a (13 + i5))), (6, .int x6)] []) {h : RS} {i1 : Nat} {x4 : Int32} {i5 : Nat} {x6 : Int32} (hi1 : i1 < 8) (hi5 : i5 < 8) (hw : bp_V_fillMatch_38 Rc K38 Q h i1 x4 i5 x6) : Z p l e R s m args below meth c D clV 101 a (ceV a q) 9 (MQ below (va_Qi Q (AtC D clV 101 a (ceV a q)) (inW a 101)) args s 0 0 (inW a 101)) h 38 [(0, .ref (a 4)), (1, .ref (a (29 + i1))), (2, .ref (a 1)), (3, .ref (a 3)), (4, .int x4), (5, .ref (a (13 + i5))), (6, .int x6)] [] := by
  unfold bp_V_fillMatch_38 at hw
  refine z_iload (pc := 38) X 6 d_V_fillMatch_38 rfl ?_
  refine z_aload (pc := 40) X 5 d_V_fillMatch_40 rfl ?_
  refine z_getN (i := (13 + i5)) (pc := 42) X (lt_ix hi5 (by decide)) (cV_Ch _ hi5) rfl hin_Ch 2 (by decide) lk73 rfl rfl d_V_fillMatch_42 ?_
  refine z_icmp_ge (tgt := 129) (pc := 45) X d_V_fillMatch_45 (by decide) (fun hc => ?_) (fun hc => ?_)
  · have hw := hw.1 hc
    refine z_iconst (v := (0 : Int32)) (pc := 129) X d_V_fillMatch_129 (by decide) ?_
    exact z_zret (pc := 130) X hw.1 d_V_fillMatch_130 hw.2
  · have hw := hw.2 hc
    refine z_aload (pc := 48) X 5 d_V_fillMatch_48 rfl ?_
    refine z_getN (i := (13 + i5)) (pc := 50) X (lt_ix hi5 (by decide)) (cV_Ch _ hi5) rfl hin_Ch 1 (by decide) lk109 rfl rfl d_V_fillMatch_50 ?_
    refine z_iload (pc := 53) X 6 d_V_fillMatch_53 rfl ?_
    obtain ⟨k1, hk1, ek1, hw⟩ := hw
    refine z_iald (i := (21 + i5)) (pc := 55) X 0 (lt_ix hi5 (by decide)) (cV_Pn _ hi5) rfl (by decide) hk1 ek1 d_V_fillMatch_55 ?_
    refine z_istore (pc := 56) X d_V_fillMatch_56 (by decide) rfl ?_
    refine z_aload_n (pc := 58) X 4 d_V_fillMatch_58 rfl rfl ?_
    refine z_getN (i := 3) (pc := 59) X (by decide) (cV_Msgs _) rfl hin_Ms 2 (by decide) lk110 rfl rfl d_V_fillMatch_59 ?_
    refine z_iload (pc := 62) X 0 d_V_fillMatch_62 rfl ?_
    obtain ⟨k2, hk2, ek2, hw⟩ := hw
    refine z_iald (i := 7) (pc := 64) X 0 (by decide) (cV_mVa _) rfl (by decide) hk2 ek2 d_V_fillMatch_64 ?_
    refine z_istore (pc := 65) X d_V_fillMatch_65 (by decide) rfl ?_
    refine z_aload_n (pc := 67) X 3 d_V_fillMatch_67 rfl rfl ?_
    refine z_iload (pc := 68) X 6 d_V_fillMatch_68 rfl ?_
    refine z_iload (pc := 70) X 0 d_V_fillMatch_70 rfl ?_
    refine z_cVNi (i := (29 + i1)) (pc := 72) X [.int _, .int _] (c_Re_passesTest X.2.2.2.2.2.2.2.2.1 hi1 hw) (by omega) (by omega) lk111 cd_Re_passesTest lk22 lk112 lk113 (lt_ix hi1 (by decide)) (cV_Re _ hi1) rfl nm_Re_passesTest rfl rfl (Nat.le_of_ble_eq_true rfl) d_V_fillMatch_72 (fun r3 h4 hw => ?_)
    refine z_if_eq (tgt := 123) (pc := 75) X d_V_fillMatch_75 (by decide) (fun hc => ?_) (fun hc => ?_)
    · have hw := hw.1 hc
      refine z_iinc (v := (x6 + 1)) (pc := 123) X 8 d_V_fillMatch_123 rfl rfl (by decide) rfl ?_
      refine z_goto (tgt := 38) (pc := 126) X d_V_fillMatch_126 (by decide) ?_
      exact z_to [3, 4, 5, 6, 7, 8, 0] rfl (hK38 _ _ _ _ _ hi1 hi5 hw)
    · have hw := hw.2 hc
      refine z_aload_n (pc := 78) X 2 d_V_fillMatch_78 rfl rfl ?_
      refine z_iload (pc := 79) X 6 d_V_fillMatch_79 rfl ?_
      refine z_iload (pc := 81) X 1 d_V_fillMatch_81 rfl ?_
      refine z_cVNi (i := 4) (pc := 83) X [.int _, .int _] (c_Mt_holdsBefore X.2.2.2.2.2.2.2.2.1 hw) (by omega) (by omega) lk114 cd_Mt_holdsBefore lk115 lk116 lk117 (by decide) (cV_Mat _) rfl nm_Mt_holdsBefore rfl rfl (Nat.le_of_ble_eq_true rfl) d_V_fillMatch_83 (fun r5 h6 hw => ?_)
      refine z_if_ne (tgt := 123) (pc := 86) X d_V_fillMatch_86 (by decide) (fun hc => ?_) (fun hc => ?_)
      · have hw := hw.1 hc
        refine z_iinc (v := (x6 + 1)) (pc := 123) X 8 d_V_fillMatch_123 rfl rfl (by decide) rfl ?_
        refine z_goto (tgt := 38) (pc := 126) X d_V_fillMatch_126 (by decide) ?_
        exact z_to [3, 4, 5, 6, 7, 8, 0] rfl (hK38 _ _ _ _ _ hi1 hi5 hw)
      · have hw := hw.2 hc
        refine z_aload_n (pc := 89) X 2 d_V_fillMatch_89 rfl rfl ?_
        refine z_getN (i := 4) (pc := 90) X (by decide) (cV_Mat _) rfl hin_Mt 0 (by decide) lk118 rfl rfl d_V_fillMatch_90 ?_
        refine z_iload (pc := 93) X 6 d_V_fillMatch_93 rfl ?_
        refine z_iload (pc := 95) X 1 d_V_fillMatch_95 rfl ?_
        obtain ⟨k7, hk7, ek7, hw⟩ := hw
        refine z_iast (i := 11) (pc := 97) X 0 (by decide) (fun g => (cV_tNu g)) rfl (by decide) hk7 ek7 d_V_fillMatch_97 ?_
        have hw := hw _ rfl
        refine z_aload_n (pc := 98) X 2 d_V_fillMatch_98 rfl rfl ?_
        refine z_getN (i := 4) (pc := 99) X (by decide) (cV_Mat _) rfl hin_Mt 1 (by decide) lk119 rfl rfl d_V_fillMatch_99 ?_
        refine z_iload (pc := 102) X 6 d_V_fillMatch_102 rfl ?_
        refine z_iload (pc := 104) X 0 d_V_fillMatch_104 rfl ?_
        obtain ⟨k9, hk9, ek9, hw⟩ := hw
        refine z_iast (i := 12) (pc := 106) X 0 (by decide) (fun g => (cV_tVa g)) rfl (by decide) hk9 ek9 d_V_fillMatch_106 ?_
        have hw := hw _ rfl
        refine z_aload_n (pc := 107) X 2 d_V_fillMatch_107 rfl rfl ?_
        refine z_aload_n (pc := 108) X 3 d_V_fillMatch_108 rfl rfl ?_
        refine z_aload_n (pc := 109) X 4 d_V_fillMatch_109 rfl rfl ?_
        refine z_aload_n (pc := 110) X 5 d_V_fillMatch_110 rfl rfl ?_
        refine z_iload (pc := 111) X 6 d_V_fillMatch_111 rfl ?_
        refine z_iconst (v := (1 : Int32)) (pc := 113) X d_V_fillMatch_113 (by decide) ?_
        refine z_iadd (pc := 114) X d_V_fillMatch_114 ?_
        refine z_cSi (pc := 115) X [.ref (a 4), .ref (a (29 + i1)), .ref (a 1), .ref (a 3), .int _] (hRc _ _ _ _ hi1 hw) (by omega) (by omega) lk120 cd_V_fillMatch lk11 lk121 nm_V_fillMatch rfl rfl (Nat.le_of_ble_eq_true rfl) d_V_fillMatch_115 (fun r11 h12 hw => ?_)
        refine z_if_eq (tgt := 123) (pc := 118) X d_V_fillMatch_118 (by decide) (fun hc => ?_) (fun hc => ?_)
        · have hw := hw.1 hc
          refine z_iinc (v := (x6 + 1)) (pc := 123) X 8 d_V_fillMatch_123 rfl rfl (by decide) rfl ?_
          refine z_goto (tgt := 38) (pc := 126) X d_V_fillMatch_126 (by decide) ?_
          exact z_to [3, 4, 5, 6, 7, 8, 0] rfl (hK38 _ _ _ _ _ hi1 hi5 hw)
        · have hw := hw.2 hc
          refine z_iconst (v := (1 : Int32)) (pc := 121) X d_V_fillMatch_121 (by decide) ?_
          exact z_zret (pc := 122) X hw.1 d_V_fillMatch_122 hw.2
theorem kl_V_fillMatch_38 {Q : Int32 → RS → Prop} {dd : Nat} (X : Cx p l R s m args meth c b_V_fillMatch 9 R_V (some .boolean) D clV (tyV q) a 101 (2 + (dd + 1)) (45 + (dd + 1) * 28) tbW) {Rc : RS → Nat → Int32 → (Int32 → RS → Prop) → Prop} (hRc : ∀ (h : RS) (i1 : Nat) (x4 : Int32) (Q : Int32 → RS → Prop), i1 < 8 → Rc h i1 x4 Q → Met l y_V_fillMatch [.code y_V_fillMatch b_V_fillMatch 9 (some .boolean)] { frames := 2 + dd, cells := 0, slots := 0, locals := 45 + dd * 28 } (va_Pc [.ref (a 4), .ref (a (29 + i1)), .ref (a 1), .ref (a 3), .int x4] (PreC tbW D clV (tyV q) 101 a (ceV a q) h)) (va_Qi Q (AtC D clV 101 a (ceV a q)) (inW a 101)) 0 0 (inW a 101)) : ∀ (n : Nat) (h : RS) (i1 : Nat) (x4 : Int32) (i5 : Nat) (x6 : Int32), i1 < 8 → i5 < 8 → wp_V_fillMatch_38 Rc Q n h i1 x4 i5 x6 → Z p l e R s m args below meth c D clV 101 a (ceV a q) 9 (MQ below (va_Qi Q (AtC D clV 101 a (ceV a q)) (inW a 101)) args s 0 0 (inW a 101)) h 38 [(0, .ref (a 4)), (1, .ref (a (29 + i1))), (2, .ref (a 1)), (3, .ref (a 3)), (4, .int x4), (5, .ref (a (13 + i5))), (6, .int x6)] [] := by
  intro n
  induction n with
  | zero =>
    intro h i1 x4 i5 x6 hi1 hi5 hw
    exact hw.elim
  | succ n ih =>
    intro h i1 x4 i5 x6 hi1 hi5 hw
    exact kb_V_fillMatch_38 X hRc ih hi1 hi5 hw
set_option maxHeartbeats 4000000 in
set_option maxRecDepth 100000 in
theorem kb_V_fillMatch_15 {Q : Int32 → RS → Prop} {dd : Nat} (X : Cx p l R s m args meth c b_V_fillMatch 9 R_V (some .boolean) D clV (tyV q) a 101 (2 + (dd + 1)) (45 + (dd + 1) * 28) tbW) {Rc : RS → Nat → Int32 → (Int32 → RS → Prop) → Prop} (hRc : ∀ (h : RS) (i1 : Nat) (x4 : Int32) (Q : Int32 → RS → Prop), i1 < 8 → Rc h i1 x4 Q → Met l y_V_fillMatch [.code y_V_fillMatch b_V_fillMatch 9 (some .boolean)] { frames := 2 + dd, cells := 0, slots := 0, locals := 45 + dd * 28 } (va_Pc [.ref (a 4), .ref (a (29 + i1)), .ref (a 1), .ref (a 3), .int x4] (PreC tbW D clV (tyV q) 101 a (ceV a q) h)) (va_Qi Q (AtC D clV 101 a (ceV a q)) (inW a 101)) 0 0 (inW a 101)) {h : RS} {i1 : Nat} (hi1 : i1 < 8) (hw : bp_V_fillMatch_15 Rc Q h i1) : Z p l e R s m args below meth c D clV 101 a (ceV a q) 9 (MQ below (va_Qi Q (AtC D clV 101 a (ceV a q)) (inW a 101)) args s 0 0 (inW a 101)) h 15 [(0, .ref (a 4)), (1, .ref (a (29 + i1)))] [] := by
  unfold bp_V_fillMatch_15 at hw
  refine z_aload_n (pc := 15) X 1 d_V_fillMatch_15 rfl rfl ?_
  refine z_aload_n (pc := 16) X 0 d_V_fillMatch_16 rfl rfl ?_
  refine z_getN (i := 4) (pc := 17) X (by decide) (cV_Mat _) rfl hin_Mt 1 (by decide) lk119 rfl rfl d_V_fillMatch_17 ?_
  refine z_cVNi (i := (29 + i1)) (pc := 20) X [.ref (a 12)] (c_Re_guardHolds X.2.2.2.2.2.2.2.2.1 hi1 hw) (by omega) (by omega) lk122 cd_Re_guardHolds lk22 lk123 lk124 (lt_ix hi1 (by decide)) (cV_Re _ hi1) rfl nm_Re_guardHolds rfl rfl (Nat.le_of_ble_eq_true rfl) d_V_fillMatch_20 (fun r13 h14 hw => ?_)
  exact z_zret (pc := 23) X hw.1 d_V_fillMatch_23 hw.2
set_option maxHeartbeats 4000000 in
set_option maxRecDepth 100000 in
theorem kb_V_fillMatch_0 {Q : Int32 → RS → Prop} {dd : Nat} (X : Cx p l R s m args meth c b_V_fillMatch 9 R_V (some .boolean) D clV (tyV q) a 101 (2 + (dd + 1)) (45 + (dd + 1) * 28) tbW) {Rc : RS → Nat → Int32 → (Int32 → RS → Prop) → Prop} (hRc : ∀ (h : RS) (i1 : Nat) (x4 : Int32) (Q : Int32 → RS → Prop), i1 < 8 → Rc h i1 x4 Q → Met l y_V_fillMatch [.code y_V_fillMatch b_V_fillMatch 9 (some .boolean)] { frames := 2 + dd, cells := 0, slots := 0, locals := 45 + dd * 28 } (va_Pc [.ref (a 4), .ref (a (29 + i1)), .ref (a 1), .ref (a 3), .int x4] (PreC tbW D clV (tyV q) 101 a (ceV a q) h)) (va_Qi Q (AtC D clV 101 a (ceV a q)) (inW a 101)) 0 0 (inW a 101)) {h : RS} {i1 : Nat} {x4 : Int32} (hi1 : i1 < 8) (hw : bp_V_fillMatch_0 Rc Q h i1 x4) : Z p l e R s m args below meth c D clV 101 a (ceV a q) 9 (MQ below (va_Qi Q (AtC D clV 101 a (ceV a q)) (inW a 101)) args s 0 0 (inW a 101)) h 0 [(0, .ref (a 4)), (1, .ref (a (29 + i1))), (2, .ref (a 1)), (3, .ref (a 3)), (4, .int x4)] [] := by
  unfold bp_V_fillMatch_0 at hw
  refine z_iload (pc := 0) X 4 d_V_fillMatch_0 rfl ?_
  refine z_iconst (v := (4 : Int32)) (pc := 2) X d_V_fillMatch_2 (by decide) ?_
  refine z_icmp_ge (tgt := 15) (pc := 3) X d_V_fillMatch_3 (by decide) (fun hc => ?_) (fun hc => ?_)
  · have hw := hw.1 hc
    exact z_to [0, 1] rfl (kb_V_fillMatch_15 X hRc hi1 hw)
  · have hw := hw.2 hc
    refine z_iload (pc := 6) X 4 d_V_fillMatch_6 rfl ?_
    refine z_aload_n (pc := 8) X 1 d_V_fillMatch_8 rfl rfl ?_
    refine z_getN (i := (29 + i1)) (pc := 9) X (lt_ix hi1 (by decide)) (cV_Re _ hi1) rfl hin_Re 0 (by decide) lk20 rfl rfl d_V_fillMatch_9 ?_
    refine z_icmp_lt (tgt := 24) (pc := 12) X d_V_fillMatch_12 (by decide) (fun hc => ?_) (fun hc => ?_)
    · have hw := hw.1 hc
      refine z_aload_n (pc := 24) X 2 d_V_fillMatch_24 rfl rfl ?_
      refine z_aload_n (pc := 25) X 1 d_V_fillMatch_25 rfl rfl ?_
      refine z_getN (i := (29 + i1)) (pc := 26) X (lt_ix hi1 (by decide)) (cV_Re _ hi1) rfl hin_Re 1 (by decide) lk47 rfl rfl d_V_fillMatch_26 ?_
      refine z_iload (pc := 29) X 4 d_V_fillMatch_29 rfl ?_
      obtain ⟨k15, hk15, ek15, hw⟩ := hw
      refine z_iald (i := (37 + i1)) (pc := 31) X 0 (lt_ix hi1 (by decide)) (cV_pC _ hi1) rfl (by decide) hk15 ek15 d_V_fillMatch_31 ?_
      obtain ⟨k16, hk16, ek16, hw⟩ := hw
      refine z_aald (i := 1) (g := fun j => 13 + j) (pc := 32) X 2 (by decide) (cV_Chs _) rfl (by decide) hk16 ek16 d_V_fillMatch_32 ?_
      refine z_astore (pc := 33) X d_V_fillMatch_33 (by decide) rfl ?_
      refine z_iconst (v := (0 : Int32)) (pc := 35) X d_V_fillMatch_35 (by decide) ?_
      refine z_istore (pc := 36) X d_V_fillMatch_36 (by decide) rfl ?_
      obtain ⟨n17, hw⟩ := hw
      exact z_to [2, 3, 4, 5, 6, 1, 0] rfl (kl_V_fillMatch_38 X hRc n17 _ _ _ _ _ hi1 hk16 hw)
    · have hw := hw.2 hc
      exact z_to [0, 1] rfl (kb_V_fillMatch_15 X hRc hi1 hw)
theorem c_V_fillMatch {l : Launch} {D : va_G} {a : Nat → Nat} {q : Nat → ClassId} (hI : injW a 101) : ∀ (dd : Nat) (h : RS) (i1 : Nat) (x4 : Int32) (Q : Int32 → RS → Prop), i1 < 8 → wp_V_fillMatch dd h i1 x4 Q → Met l y_V_fillMatch [.code y_V_fillMatch b_V_fillMatch 9 (some .boolean)] { frames := 2 + dd, cells := 0, slots := 0, locals := 45 + dd * 28 } (va_Pc [.ref (a 4), .ref (a (29 + i1)), .ref (a 1), .ref (a 3), .int x4] (PreC tbW D clV (tyV q) 101 a (ceV a q) h)) (va_Qi Q (AtC D clV 101 a (ceV a q)) (inW a 101)) 0 0 (inW a 101) := by
  intro dd
  induction dd with
  | zero =>
    intro h i1 x4 Q hi1 hw
    exact hw.elim
  | succ dd ih =>
    intro h i1 x4 Q hi1 hw
    exact m_of (by decide +kernel) hI tb_ok (Nat.le_of_ble_eq_true rfl) (fun p e R s m below meth c X => kb_V_fillMatch_0 X ih hi1 hw)
set_option maxHeartbeats 4000000 in
set_option maxRecDepth 100000 in
theorem kb_V_findEnabledMatch_0 {Q : Int32 → RS → Prop} (X : Cx p l R s m args meth c b_V_findEnabledMatch 2 R_V (some .boolean) D clV (tyV q) a 101 8 213 tbW) {h : RS} {x1 : Int32} (hw : bp_V_findEnabledMatch_0 Q h x1) : Z p l e R s m args below meth c D clV 101 a (ceV a q) 2 (MQ below (va_Qi Q (AtC D clV 101 a (ceV a q)) (inW a 101)) args s 0 0 (inW a 101)) h 0 [(0, .ref (a 0)), (1, .int x1)] [] := by
  unfold bp_V_findEnabledMatch_0 at hw
  refine z_aload_n (pc := 0) X 0 d_V_findEnabledMatch_0 rfl rfl ?_
  refine z_get (i := 0) (pc := 1) X (by decide) (cV_V _) rfl hin_V 4 (by decide) lk1 rfl rfl d_V_findEnabledMatch_1 ?_
  refine z_if_eq (tgt := 49) (pc := 4) X d_V_findEnabledMatch_4 (by decide) (fun hc => ?_) (fun hc => ?_)
  · have hw := hw.1 hc
    refine z_iconst (v := (0 : Int32)) (pc := 49) X d_V_findEnabledMatch_49 (by decide) ?_
    exact z_zret (pc := 50) X hw.1 d_V_findEnabledMatch_50 hw.2
  · have hw := hw.2 hc
    refine z_aload_n (pc := 7) X 0 d_V_findEnabledMatch_7 rfl rfl ?_
    refine z_aload_n (pc := 8) X 0 d_V_findEnabledMatch_8 rfl rfl ?_
    refine z_get (i := 0) (pc := 9) X (by decide) (cV_V _) rfl hin_V 2 (by decide) lk19 rfl rfl d_V_findEnabledMatch_9 ?_
    refine z_iload_n (pc := 12) X 1 d_V_findEnabledMatch_12 rfl rfl ?_
    obtain ⟨k1, hk1, ek1, hw⟩ := hw
    refine z_aald (i := 2) (g := fun j => 29 + j) (pc := 13) X 3 (by decide) (cV_Res _) rfl (by decide) hk1 ek1 d_V_findEnabledMatch_13 ?_
    refine z_cVi (i := 0) (pc := 14) X [.ref (a (29 + k1))] (c_V_hasRoom X.2.2.2.2.2.2.2.2.1 hk1 hw) (by decide) (by decide) lk125 cd_V_hasRoom lk11 lk126 lk127 (by decide) (cV_V _) rfl nm_V_hasRoom rfl rfl (Nat.le_of_ble_eq_true rfl) d_V_findEnabledMatch_14 (fun r2 h3 hw => ?_)
    refine z_if_eq (tgt := 49) (pc := 17) X d_V_findEnabledMatch_17 (by decide) (fun hc => ?_) (fun hc => ?_)
    · have hw := hw.1 hc
      refine z_iconst (v := (0 : Int32)) (pc := 49) X d_V_findEnabledMatch_49 (by decide) ?_
      exact z_zret (pc := 50) X hw.1 d_V_findEnabledMatch_50 hw.2
    · have hw := hw.2 hc
      refine z_aload_n (pc := 20) X 0 d_V_findEnabledMatch_20 rfl rfl ?_
      refine z_get (i := 0) (pc := 21) X (by decide) (cV_V _) rfl hin_V 6 (by decide) lk128 rfl rfl d_V_findEnabledMatch_21 ?_
      refine z_aload_n (pc := 24) X 0 d_V_findEnabledMatch_24 rfl rfl ?_
      refine z_get (i := 0) (pc := 25) X (by decide) (cV_V _) rfl hin_V 2 (by decide) lk19 rfl rfl d_V_findEnabledMatch_25 ?_
      refine z_iload_n (pc := 28) X 1 d_V_findEnabledMatch_28 rfl rfl ?_
      obtain ⟨k4, hk4, ek4, hw⟩ := hw
      refine z_aald (i := 2) (g := fun j => 29 + j) (pc := 29) X 3 (by decide) (cV_Res _) rfl (by decide) hk4 ek4 d_V_findEnabledMatch_29 ?_
      refine z_aload_n (pc := 30) X 0 d_V_findEnabledMatch_30 rfl rfl ?_
      refine z_get (i := 0) (pc := 31) X (by decide) (cV_V _) rfl hin_V 0 (by decide) lk3 rfl rfl d_V_findEnabledMatch_31 ?_
      refine z_aload_n (pc := 34) X 0 d_V_findEnabledMatch_34 rfl rfl ?_
      refine z_get (i := 0) (pc := 35) X (by decide) (cV_V _) rfl hin_V 5 (by decide) lk64 rfl rfl d_V_findEnabledMatch_35 ?_
      refine z_iconst (v := (0 : Int32)) (pc := 38) X d_V_findEnabledMatch_38 (by decide) ?_
      obtain ⟨d7, hd7, hw⟩ := hw
      refine z_cSi (pc := 39) X [.ref (a 4), .ref (a (29 + k4)), .ref (a 1), .ref (a 3), .int _] (c_V_fillMatch X.2.2.2.2.2.2.2.2.1 d7 _ _ _ _ hk4 hw) (by omega) (by omega) lk120 cd_V_fillMatch lk11 lk121 nm_V_fillMatch rfl rfl (Nat.le_of_ble_eq_true rfl) d_V_findEnabledMatch_39 (fun r5 h6 hw => ?_)
      refine z_if_eq (tgt := 49) (pc := 42) X d_V_findEnabledMatch_42 (by decide) (fun hc => ?_) (fun hc => ?_)
      · have hw := hw.1 hc
        refine z_iconst (v := (0 : Int32)) (pc := 49) X d_V_findEnabledMatch_49 (by decide) ?_
        exact z_zret (pc := 50) X hw.1 d_V_findEnabledMatch_50 hw.2
      · have hw := hw.2 hc
        refine z_iconst (v := (1 : Int32)) (pc := 45) X d_V_findEnabledMatch_45 (by decide) ?_
        refine z_goto (tgt := 50) (pc := 46) X d_V_findEnabledMatch_46 (by decide) ?_
        exact z_zret (pc := 50) X hw.1 d_V_findEnabledMatch_50 hw.2
theorem c_V_findEnabledMatch {l : Launch} {D : va_G} {a : Nat → Nat} {q : Nat → ClassId} (hI : injW a 101) {h : RS} {x1 : Int32} {Q : Int32 → RS → Prop} (hw : wp_V_findEnabledMatch h x1 Q) : Met l y_V_findEnabledMatch [.code y_V_findEnabledMatch b_V_findEnabledMatch 2 (some .boolean)] { frames := 8, cells := 0, slots := 0, locals := 213 } (va_Pc [.ref (a 0), .int x1] (PreC tbW D clV (tyV q) 101 a (ceV a q) h)) (va_Qi Q (AtC D clV 101 a (ceV a q)) (inW a 101)) 0 0 (inW a 101) :=
  m_of (by decide +kernel) hI tb_ok (Nat.le_of_ble_eq_true rfl) (fun p e R s m below meth c X => kb_V_findEnabledMatch_0 X hw)
set_option maxHeartbeats 4000000 in
set_option maxRecDepth 100000 in
theorem kb_V_findNext_27 {Q : Int32 → RS → Prop} (X : Cx p l R s m args meth c b_V_findNext 4 R_V (some .int) D clV (tyV q) a 101 9 234 tbW) {K27 : RS → Int32 → Int32 → Prop} (hK27 : ∀ (h : RS) (x1 : Int32) (x2 : Int32), K27 h x1 x2 → Z p l e R s m args below meth c D clV 101 a (ceV a q) 4 (MQ below (va_Qi Q (AtC D clV 101 a (ceV a q)) (inW a 101)) args s 0 0 (inW a 101)) h 27 [(0, .ref (a 0)), (1, .int x1), (2, .int x2)] []) {h : RS} {x1 : Int32} {x2 : Int32} (hw : bp_V_findNext_27 K27 Q h x1 x2) : Z p l e R s m args below meth c D clV 101 a (ceV a q) 4 (MQ below (va_Qi Q (AtC D clV 101 a (ceV a q)) (inW a 101)) args s 0 0 (inW a 101)) h 27 [(0, .ref (a 0)), (1, .int x1), (2, .int x2)] [] := by
  unfold bp_V_findNext_27 at hw
  refine z_iload_n (pc := 27) X 2 d_V_findNext_27 rfl rfl ?_
  refine z_aload_n (pc := 28) X 0 d_V_findNext_28 rfl rfl ?_
  refine z_get (i := 0) (pc := 29) X (by decide) (cV_V _) rfl hin_V 3 (by decide) lk5 rfl rfl d_V_findNext_29 ?_
  refine z_icmp_ge (tgt := 60) (pc := 32) X d_V_findNext_32 (by decide) (fun hc => ?_) (fun hc => ?_)
  · have hw := hw.1 hc
    refine z_iconst (v := (-1 : Int32)) (pc := 60) X d_V_findNext_60 (by decide) ?_
    exact z_iret (pc := 61) X d_V_findNext_61 hw
  · have hw := hw.2 hc
    refine z_iload_n (pc := 35) X 1 d_V_findNext_35 rfl rfl ?_
    refine z_iload_n (pc := 36) X 2 d_V_findNext_36 rfl rfl ?_
    refine z_iadd (pc := 37) X d_V_findNext_37 ?_
    refine z_aload_n (pc := 38) X 0 d_V_findNext_38 rfl rfl ?_
    refine z_get (i := 0) (pc := 39) X (by decide) (cV_V _) rfl hin_V 3 (by decide) lk5 rfl rfl d_V_findNext_39 ?_
    obtain ⟨hne, hw⟩ := hw
    refine z_irem (pc := 42) X d_V_findNext_42 hne ?_
    refine z_istore_n (pc := 43) X d_V_findNext_43 rfl (by decide) rfl ?_
    refine z_aload_n (pc := 44) X 1 d_V_findNext_44 rfl rfl ?_
    refine z_iload_n (pc := 45) X 0 d_V_findNext_45 rfl rfl ?_
    refine z_cVi (i := 0) (pc := 46) X [.int _] (c_V_findEnabledMatch X.2.2.2.2.2.2.2.2.1 hw) (by decide) (by decide) lk129 cd_V_findEnabledMatch lk11 lk130 lk131 (by decide) (cV_V _) rfl nm_V_findEnabledMatch rfl rfl (Nat.le_of_ble_eq_true rfl) d_V_findNext_46 (fun r1 h2 hw => ?_)
    refine z_if_eq (tgt := 54) (pc := 49) X d_V_findNext_49 (by decide) (fun hc => ?_) (fun hc => ?_)
    · have hw := hw.1 hc
      refine z_iinc (v := (x2 + 1)) (pc := 54) X 3 d_V_findNext_54 rfl rfl (by decide) rfl ?_
      refine z_goto (tgt := 27) (pc := 57) X d_V_findNext_57 (by decide) ?_
      exact z_to [2, 3, 0] rfl (hK27 _ _ _ hw)
    · have hw := hw.2 hc
      refine z_iload_n (pc := 52) X 0 d_V_findNext_52 rfl rfl ?_
      exact z_iret (pc := 53) X d_V_findNext_53 hw
theorem kl_V_findNext_27 {Q : Int32 → RS → Prop} (X : Cx p l R s m args meth c b_V_findNext 4 R_V (some .int) D clV (tyV q) a 101 9 234 tbW) : ∀ (n : Nat) (h : RS) (x1 : Int32) (x2 : Int32), wp_V_findNext_27 Q n h x1 x2 → Z p l e R s m args below meth c D clV 101 a (ceV a q) 4 (MQ below (va_Qi Q (AtC D clV 101 a (ceV a q)) (inW a 101)) args s 0 0 (inW a 101)) h 27 [(0, .ref (a 0)), (1, .int x1), (2, .int x2)] [] := by
  intro n
  induction n with
  | zero =>
    intro h x1 x2 hw
    exact hw.elim
  | succ n ih =>
    intro h x1 x2 hw
    exact kb_V_findNext_27 X ih hw
set_option maxHeartbeats 4000000 in
set_option maxRecDepth 100000 in
theorem kb_V_findNext_24 {Q : Int32 → RS → Prop} (X : Cx p l R s m args meth c b_V_findNext 4 R_V (some .int) D clV (tyV q) a 101 9 234 tbW) {h : RS} {y0 : Int32} (hw : bp_V_findNext_24 Q h y0) : Z p l e R s m args below meth c D clV 101 a (ceV a q) 4 (MQ below (va_Qi Q (AtC D clV 101 a (ceV a q)) (inW a 101)) args s 0 0 (inW a 101)) h 24 [(0, .ref (a 0))] [.int y0] := by
  unfold bp_V_findNext_24 at hw
  refine z_istore_n (pc := 24) X d_V_findNext_24 rfl (by decide) rfl ?_
  refine z_iconst (v := (0 : Int32)) (pc := 25) X d_V_findNext_25 (by decide) ?_
  refine z_istore_n (pc := 26) X d_V_findNext_26 rfl (by decide) rfl ?_
  obtain ⟨n3, hw⟩ := hw
  exact z_to [2, 1, 0] rfl (kl_V_findNext_27 X n3 _ _ _ hw)
set_option maxHeartbeats 4000000 in
set_option maxRecDepth 100000 in
theorem kb_V_findNext_0 {Q : Int32 → RS → Prop} (X : Cx p l R s m args meth c b_V_findNext 4 R_V (some .int) D clV (tyV q) a 101 9 234 tbW) {h : RS} (hw : bp_V_findNext_0 Q h) : Z p l e R s m args below meth c D clV 101 a (ceV a q) 4 (MQ below (va_Qi Q (AtC D clV 101 a (ceV a q)) (inW a 101)) args s 0 0 (inW a 101)) h 0 [(0, .ref (a 0))] [] := by
  unfold bp_V_findNext_0 at hw
  refine z_aload_n (pc := 0) X 0 d_V_findNext_0 rfl rfl ?_
  refine z_get (i := 0) (pc := 1) X (by decide) (cV_V _) rfl hin_V 8 (by decide) lk132 rfl rfl d_V_findNext_1 ?_
  refine z_if_ne (tgt := 11) (pc := 4) X d_V_findNext_4 (by decide) (fun hc => ?_) (fun hc => ?_)
  · have hw := hw.1 hc
    refine z_aload_n (pc := 11) X 0 d_V_findNext_11 rfl rfl ?_
    refine z_get (i := 0) (pc := 12) X (by decide) (cV_V _) rfl hin_V 7 (by decide) lk133 rfl rfl d_V_findNext_12 ?_
    refine z_aload_n (pc := 15) X 0 d_V_findNext_15 rfl rfl ?_
    refine z_get (i := 0) (pc := 16) X (by decide) (cV_V _) rfl hin_V 8 (by decide) lk132 rfl rfl d_V_findNext_16 ?_
    refine z_iconst (v := (1 : Int32)) (pc := 19) X d_V_findNext_19 (by decide) ?_
    refine z_isub (pc := 20) X d_V_findNext_20 ?_
    obtain ⟨k4, hk4, ek4, hw⟩ := hw
    refine z_iald (i := 5) (pc := 21) X 0 (by decide) (cV_Fir _) rfl (by decide) hk4 ek4 d_V_findNext_21 ?_
    refine z_iconst (v := (1 : Int32)) (pc := 22) X d_V_findNext_22 (by decide) ?_
    refine z_iadd (pc := 23) X d_V_findNext_23 ?_
    exact z_to [0] rfl (kb_V_findNext_24 X hw)
  · have hw := hw.2 hc
    refine z_iconst (v := (0 : Int32)) (pc := 7) X d_V_findNext_7 (by decide) ?_
    refine z_goto (tgt := 24) (pc := 8) X d_V_findNext_8 (by decide) ?_
    exact z_to [0] rfl (kb_V_findNext_24 X hw)
theorem c_V_findNext {l : Launch} {D : va_G} {a : Nat → Nat} {q : Nat → ClassId} (hI : injW a 101) {h : RS} {Q : Int32 → RS → Prop} (hw : wp_V_findNext h Q) : Met l y_V_findNext [.code y_V_findNext b_V_findNext 4 (some .int)] { frames := 9, cells := 0, slots := 0, locals := 234 } (va_Pc [.ref (a 0)] (PreC tbW D clV (tyV q) 101 a (ceV a q) h)) (va_Qi Q (AtC D clV 101 a (ceV a q)) (inW a 101)) 0 0 (inW a 101) :=
  m_of (by decide +kernel) hI tb_ok (Nat.le_of_ble_eq_true rfl) (fun p e R s m below meth c X => kb_V_findNext_0 X hw)
set_option maxHeartbeats 4000000 in
set_option maxRecDepth 100000 in
theorem kb_V_consume_0 {Q : RS → Prop} (X : Cx p l R s m args meth c b_V_consume 2 R_V none D clV (tyV q) a 101 1 23 tbW) {h : RS} {x1 : Int32} (hw : bp_V_consume_0 Q h x1) : Z p l e R s m args below meth c D clV 101 a (ceV a q) 2 (MQ below (va_Qv Q (AtC D clV 101 a (ceV a q)) (inW a 101)) args s 0 0 (inW a 101)) h 0 [(0, .ref (a 0)), (1, .int x1)] [] := by
  unfold bp_V_consume_0 at hw
  refine z_aload_n (pc := 0) X 0 d_V_consume_0 rfl rfl ?_
  refine z_get (i := 0) (pc := 1) X (by decide) (cV_V _) rfl hin_V 5 (by decide) lk64 rfl rfl d_V_consume_1 ?_
  refine z_getN (i := 3) (pc := 4) X (by decide) (cV_Msgs _) rfl hin_Ms 3 (by decide) lk84 rfl rfl d_V_consume_4 ?_
  refine z_iload_n (pc := 7) X 1 d_V_consume_7 rfl rfl ?_
  refine z_iconst (v := (2 : Int32)) (pc := 8) X d_V_consume_8 (by decide) ?_
  obtain ⟨k1, hk1, ek1, hw⟩ := hw
  refine z_iast (i := 8) (pc := 9) X 0 (by decide) (fun g => (cV_mSt g)) rfl (by decide) hk1 ek1 d_V_consume_9 ?_
  have hw := hw _ rfl
  refine z_aload_n (pc := 10) X 0 d_V_consume_10 rfl rfl ?_
  refine z_get (i := 0) (pc := 11) X (by decide) (cV_V _) rfl hin_V 5 (by decide) lk64 rfl rfl d_V_consume_11 ?_
  refine z_getN (i := 3) (pc := 14) X (by decide) (cV_Msgs _) rfl hin_Ms 4 (by decide) lk134 rfl rfl d_V_consume_14 ?_
  refine z_iload_n (pc := 17) X 1 d_V_consume_17 rfl rfl ?_
  refine z_aload_n (pc := 18) X 0 d_V_consume_18 rfl rfl ?_
  refine z_get (i := 0) (pc := 19) X (by decide) (cV_V _) rfl hin_V 8 (by decide) lk132 rfl rfl d_V_consume_19 ?_
  obtain ⟨k3, hk3, ek3, hw⟩ := hw
  refine z_iast (i := 9) (pc := 22) X 0 (by decide) (fun g => (cV_mCo g)) rfl (by decide) hk3 ek3 d_V_consume_22 ?_
  have hw := hw _ rfl
  refine z_aload_n (pc := 23) X 0 d_V_consume_23 rfl rfl ?_
  refine z_get (i := 0) (pc := 24) X (by decide) (cV_V _) rfl hin_V 0 (by decide) lk3 rfl rfl d_V_consume_24 ?_
  refine z_aload_n (pc := 27) X 0 d_V_consume_27 rfl rfl ?_
  refine z_get (i := 0) (pc := 28) X (by decide) (cV_V _) rfl hin_V 5 (by decide) lk64 rfl rfl d_V_consume_28 ?_
  refine z_getN (i := 3) (pc := 31) X (by decide) (cV_Msgs _) rfl hin_Ms 1 (by decide) lk85 rfl rfl d_V_consume_31 ?_
  refine z_iload_n (pc := 34) X 1 d_V_consume_34 rfl rfl ?_
  obtain ⟨k5, hk5, ek5, hw⟩ := hw
  refine z_iald (i := 6) (pc := 35) X 0 (by decide) (cV_mCh _) rfl (by decide) hk5 ek5 d_V_consume_35 ?_
  obtain ⟨k6, hk6, ek6, hw⟩ := hw
  refine z_aald (i := 1) (g := fun j => 13 + j) (pc := 36) X 2 (by decide) (cV_Chs _) rfl (by decide) hk6 ek6 d_V_consume_36 ?_
  refine z_iload_n (pc := 37) X 1 d_V_consume_37 rfl rfl ?_
  refine z_cVNv (i := (13 + k6)) (pc := 38) X [.int _] (c_Ch_removePending X.2.2.2.2.2.2.2.2.1 hk6 hw) (by decide) (by decide) lk86 cd_Ch_removePending lk70 lk87 lk88 (lt_ix hk6 (by decide)) (cV_Ch _ hk6) rfl nm_Ch_removePending rfl rfl (Nat.le_of_ble_eq_true rfl) d_V_consume_38 (fun h7 hw => ?_)
  exact z_vret (pc := 41) X d_V_consume_41 hw
theorem c_V_consume {l : Launch} {D : va_G} {a : Nat → Nat} {q : Nat → ClassId} (hI : injW a 101) {h : RS} {x1 : Int32} {Q : RS → Prop} (hw : wp_V_consume h x1 Q) : Met l y_V_consume [.code y_V_consume b_V_consume 2 none] { frames := 1, cells := 0, slots := 0, locals := 23 } (va_Pc [.ref (a 0), .int x1] (PreC tbW D clV (tyV q) 101 a (ceV a q) h)) (va_Qv Q (AtC D clV 101 a (ceV a q)) (inW a 101)) 0 0 (inW a 101) :=
  m_of (by decide +kernel) hI tb_ok (Nat.le_of_ble_eq_true rfl) (fun p e R s m below meth c X => kb_V_consume_0 X hw)
end
