/-! the vessel's search -/
theorem w_hb {h : RS} {p : Nat} {x : Int32} {Q : Int32 → RS → Prop} (hp : p ≤ 4) (f : (∃ i, i < p ∧ h 11 i = x) → Q 1 h) (g : ¬ (∃ i, i < p ∧ h 11 i = x) → Q 0 h) : wp_Mt_holdsBefore h (nI p) x Q := by
  have key : ∀ n i, p - i < n → i ≤ p → (∀ j, j < i → ¬ h 11 j = x) → wp_Mt_holdsBefore_2 Q n h (nI p) x (nI i) := by
    intro n
    induction n with
    | zero => intro i q; omega
    | succ n ih =>
      intro i hn hi hno
      show bp_Mt_holdsBefore_2 (wp_Mt_holdsBefore_2 Q n) Q h (nI p) x (nI i)
      unfold bp_Mt_holdsBefore_2
      refine c_le rfl rfl (by omega) (by omega) (fun hle => ⟨isB_0, g (fun ⟨j, hj, e⟩ => hno j (by omega) e)⟩) (fun hlt => ⟨i, by omega, rfl, fun q => ?_, fun q => ⟨isB_1, f ⟨i, hlt, q⟩⟩⟩)
      rw [nI_1]
      refine ih (i + 1) (by omega) (by omega) (fun j hj => ?_)
      by_cases e : j = i
      · rw [e]; exact q
      · exact hno j (by omega)
  exact ⟨p + 1, key (p + 1) 0 (by omega) (by omega) (fun j hj => absurd hj (by omega))⟩
/-- the facts of reaction r and of the messages that the search rests on -/
def SRv (hv g : RS) (nm r P : Nat) : Prop := P ≤ 4 ∧ nm ≤ 300 ∧ hv (29 + r) 0 = nI P ∧ kN g r ≤ 5 ∧ hv (29 + r) 4 = nI (kN g r) ∧ hv (29 + r) 5 = g 7 r ∧ (∀ m, hv 7 m = g 15 m) ∧ ∀ i, i < P → chN g r i < 8 ∧ hv (37 + r) i = nI (chN g r i) ∧ tN g r i ≤ 4 ∧ hv (45 + r) i = nI (tN g r i) ∧ hv (53 + r) i = g 5 (4 * r + i) ∧ (pl g nm r i).length ≤ 6 ∧ hv (13 + chN g r i) 2 = nI (pl g nm r i).length ∧ ∀ k, k < (pl g nm r i).length → hv (21 + chN g r i) k = nI ((pl g nm r i).getD k 0)
theorem SRv_of {hv g : RS} {nc nr nm nf r : Nat} {np na : Nat → Nat} (hB : JB hv g nc nr np na) (hM : JM hv g nc nr nm nf) (hr : r < 8) : SRv hv g nm r (np r) := by
  obtain ⟨b1, b2, b3, b4, b5, b6, b7, b8⟩ := hB
  obtain ⟨r1, r2, r3, r4, r5, r6, r7, ⟨k, r8, r8'⟩, r9, r10, r11⟩ := b8 r hr
  obtain ⟨m1, m2, m3, m4, m5, m6, m7, m8, m9, m10⟩ := hM
  have ek : kN g r = k := by unfold kN; rw [r8']; exact nI_clamp (by omega)
  refine ⟨r3, m3, r1, by rw [ek]; exact r8, by rw [ek, r7]; exact r8', r9, fun m => (m7 m).2.1, fun i hi => ?_⟩
  obtain ⟨c, t, p1, p2, p3, p4, p5, p6, p7⟩ := r10 i hi
  have ec : chN g r i = c := by unfold chN; rw [p4]; exact nI_clamp (by omega)
  have et : tN g r i = t := by unfold tN; rw [p6]; exact nI_clamp (by omega)
  unfold pl
  rw [ec, et]
  obtain ⟨q1, q2, q3⟩ := m10 c (by omega)
  exact ⟨by omega, p3, p2, p5, p7, q1, q2, q3⟩
theorem w_fm {hv g : RS} {nm r P : Nat} (hr : r < 8) (S : SRv hv g nm r P) : ∀ (dd p : Nat) (d : Nat → Nat) (h : RS) (Q : Int32 → RS → Prop), scrV hv h → P - p < dd → p ≤ P →
    (∀ i, i < p → d i < (pl g nm r i).length ∧ TST (tN g r i) (g 5 (4 * r + i)) (vl g nm r d i) ∧ (∀ j, j < i → ¬ mg g nm r d j = mg g nm r d i) ∧ h 11 i = nI (mg g nm r d i) ∧ h 12 i = vl g nm r d i) →
    (∀ (h' : RS) (d' : Nat → Nat), scrV hv h' → (∀ i, i < p → d' i = d i) → OKd g nm r P d' → (∀ i, i < P → h' 11 i = nI (mg g nm r d' i) ∧ h' 12 i = vl g nm r d' i) → (∀ d'', (∀ i, i < p → d'' i = d i) → OKd g nm r P d'' → ¬ LEX P d'' d') → Q 1 h') →
    (∀ h' : RS, scrV hv h' → (∀ i, i < p → h' 11 i = nI (mg g nm r d i) ∧ h' 12 i = vl g nm r d i) → (∀ d'', (∀ i, i < p → d'' i = d i) → ¬ OKd g nm r P d'') → Q 0 h') →
    wp_V_fillMatch dd h r (nI p) Q := by
  obtain ⟨hP, hnm, e0, hk, e4, e5, e7, hI⟩ := S
  have hml : ∀ (d : Nat → Nat) (i : Nat), d i < (pl g nm r i).length → mg g nm r d i < nm := fun d i hd => (pend_lt (g := g) (n := nm) (c := chN g r i) hd).1
  intro dd
  induction dd with
  | zero => intro p d h Q _ q; omega
  | succ dd ih =>
    intro p d h Q hs hdd hp hpre f g0
    show bp_V_fillMatch_0 (wp_V_fillMatch dd) Q h r (nI p)
    unfold bp_V_fillMatch_0
    have hend : p = P → bp_V_fillMatch_15 (wp_V_fillMatch dd) Q h r := by
      intro ep
      subst ep
      unfold bp_V_fillMatch_15
      have hc : ∀ i, i < p → h 12 i = vl g nm r d i := fun i hi => (hpre i hi).2.2.2.2
      refine w_grd hP hk (by rw [hs (29 + r) (by omega) (by omega)]; exact e0) (by rw [hs (29 + r) (by omega) (by omega)]; exact e4) (by rw [hs (29 + r) (by omega) (by omega)]; exact e5) (fun w => ⟨isB_1, f h d hs (fun _ _ => rfl) ⟨fun i hi => (hpre i hi).1, fun i hi => (hpre i hi).2.1, fun i j hi hj => (hpre i hi).2.2.1 j hj, GRD_congr hc w⟩ (fun i hi => (hpre i hi).2.2.2) (fun d'' hd _ ⟨i, hi, hlt, _⟩ => absurd hlt (by rw [hd i hi]; omega))⟩) (fun w => ⟨isB_0, g0 h hs (fun i hi => (hpre i hi).2.2.2) (fun d'' hd ho => w (GRD_congr (fun i hi => by rw [hc i hi]; exact vl_congr (hd i hi)) ho.2.2.2))⟩)
    refine c_le (a := 4) rfl rfl (by omega) (by omega) (fun h4 => hend (by omega)) (fun h4 => c_lt rfl (by rw [hs (29 + r) (by omega) (by omega)]; exact e0) (by omega) (by omega) (fun hlt => ?_) (fun hge => hend (by omega)))
    obtain ⟨i1, i2, i3, i4, i5, i6, i7, i8⟩ := hI p hlt
    refine ⟨p, by omega, rfl, chN g r p, i1, by rw [hs (37 + r) (by omega) (by omega)]; exact i2, ?_⟩
    have key : ∀ n k (h1 : RS), (pl g nm r p).length - k < n → k ≤ (pl g nm r p).length → scrV hv h1 → (∀ i, i < p → h1 11 i = nI (mg g nm r d i) ∧ h1 12 i = vl g nm r d i) → (∀ d'', (∀ i, i < p → d'' i = d i) → d'' p < k → ¬ OKd g nm r P d'') → wp_V_fillMatch_38 (wp_V_fillMatch dd) Q n h1 r (nI p) (chN g r p) (nI k) := by
      intro n
      induction n with
      | zero => intro k h1 q; omega
      | succ n ihn =>
        intro k h1 hn hk1 hs1 hpre1 hno
        show bp_V_fillMatch_38 (wp_V_fillMatch dd) (wp_V_fillMatch_38 (wp_V_fillMatch dd) Q n) Q h1 r (nI p) (chN g r p) (nI k)
        unfold bp_V_fillMatch_38
        refine c_le (by rw [hs1 (13 + chN g r p) (by omega) (by omega)]; exact i7) rfl (by omega) (by omega) (fun hle => ⟨isB_0, g0 h1 hs1 hpre1 (fun d'' hd ho => hno d'' hd (Nat.lt_of_lt_of_le (ho.1 p hlt) hle) ho)⟩) (fun hlt2 => ?_)
        have hmk : (pl g nm r p).getD k 0 < nm := (pend_lt (g := g) (n := nm) (c := chN g r p) hlt2).1
        have e21 : h1 (21 + chN g r p) k = nI ((pl g nm r p).getD k 0) := by rw [hs1 (21 + chN g r p) (by omega) (by omega)]; exact i8 k hlt2
        have e7' : h1 7 ((pl g nm r p).getD k 0) = g 15 ((pl g nm r p).getD k 0) := by rw [hs1 7 (by omega) (by omega)]; exact e7 _
        have hnext : ∀ h2 : RS, scrV hv h2 → (∀ i, i < p → h2 11 i = nI (mg g nm r d i) ∧ h2 12 i = vl g nm r d i) → (∀ d'', (∀ i, i < p → d'' i = d i) → d'' p = k → ¬ OKd g nm r P d'') → wp_V_fillMatch_38 (wp_V_fillMatch dd) Q n h2 r (nI p) (chN g r p) (nI k + 1) := by
          intro h2 hs2 hpre2 hno2
          rw [nI_1]
          refine ihn (k + 1) h2 (by omega) (by omega) hs2 hpre2 (fun d'' hd hlt3 => ?_)
          by_cases e : d'' p = k
          · exact hno2 d'' hd e
          · exact hno d'' hd (by omega)
        refine ⟨k, by omega, rfl, (pl g nm r p).getD k 0, by omega, e21, ?_⟩
        rw [e7', e21]
        refine w_pt (n := g 5 (4 * r + p)) (by omega) i3 (by rw [hs1 (45 + r) (by omega) (by omega)]; exact i4) (by rw [hs1 (53 + r) (by omega) (by omega)]; exact i5) (fun hT => ⟨fun q => absurd q ne01, fun _ => ?_⟩) (fun hT => ⟨fun _ => hnext h1 hs1 hpre1 (fun d'' hd e ho => hT ?_), fun q => absurd rfl q⟩)
        rotate_left
        · have h9 := ho.2.1 p hlt
          unfold vl mg at h9
          rw [e] at h9
          exact h9
        refine w_hb (by omega) (fun hH => ⟨fun _ => hnext h1 hs1 hpre1 (fun d'' hd e ho => ?_), fun q => absurd q ne01⟩) (fun hH => ⟨fun q => absurd rfl q, fun _ => ?_⟩)
        · obtain ⟨i, hi, he⟩ := hH
          have h9 := ho.2.2.1 p i hlt hi
          apply h9
          have h8 := (hpre1 i hi).1
          rw [he] at h8
          have h7 := nI_inj (by omega) (by have := hml d i (hpre i hi).1; omega) h8
          rw [mg_congr (hd i hi), ← h7]
          unfold mg
          rw [e]
        refine ⟨p, by omega, rfl, ?_⟩
        rintro h8 rfl
        refine ⟨p, by omega, rfl, ?_⟩
        rintro h10 rfl
        have hup : nI p + (1 : Int32) = nI (p + 1) := nI_1 p
        rw [hup]
        have hd1 : ∀ i, i < p → va_up d p k i = d i := fun i hi => by rw [va_up, if_neg (by omega)]
        have hdp : va_up d p k p = k := by rw [va_up, if_pos rfl]
        have hmp : mg g nm r (va_up d p k) p = (pl g nm r p).getD k 0 := by unfold mg; rw [hdp]
        refine ih (p + 1) (va_up d p k) _ _ ?_ (by omega) (by omega) (fun i hi => ?_) (fun h' d' hs' hd' ho' hrow hmin => ?_) (fun h' hs' hrow hno' => ?_)
        · intro i h2 h3
          rw [up2_f h3, up2_f h2]
          exact hs1 i h2 h3
        · by_cases e : i = p
          · rw [e]
            refine ⟨by rw [hdp]; exact hlt2, ?_, fun j hj hq => ?_, ?_, ?_⟩
            · unfold vl; rw [hmp]; exact hT
            · apply hH
              refine ⟨j, hj, ?_⟩
              rw [(hpre1 j hj).1, ← hmp, ← hq, mg_congr (hd1 j hj)]
            · rw [up2_o (by omega), up2_s, hmp]
            · rw [up2_s]; unfold vl; rw [hmp]
          · have hi2 : i < p := by omega
            obtain ⟨g1, g2, g3, -, -⟩ := hpre i hi2
            refine ⟨by rw [hd1 i hi2]; exact g1, by rw [vl_congr (hd1 i hi2)]; exact g2, fun j hj => by rw [mg_congr (hd1 i hi2), mg_congr (hd1 j (by omega))]; exact g3 j hj, ?_, ?_⟩
            · rw [up2_o (by omega), up2_o (by omega), mg_congr (hd1 i hi2)]; exact (hpre1 i hi2).1
            · rw [up2_o (by omega), up2_o (by omega), vl_congr (hd1 i hi2)]; exact (hpre1 i hi2).2
        · refine ⟨fun q => absurd q ne01, fun _ => ⟨isB_1, f h' d' hs' (fun i hi => by rw [hd' i (by omega), hd1 i hi]) ho' hrow (fun d'' hd ho hL => ?_)⟩⟩
          obtain ⟨i, hi, hlt3, hsame⟩ := id hL
          have hge : ¬ i < p := fun q => by
            have h9 := hd i q
            have h8 := hd' i (by omega)
            rw [hd1 i q] at h8
            omega
          by_cases e : i = p
          · rw [e, hd' p (by omega), hdp] at hlt3
            exact hno d'' hd hlt3 ho
          · refine hmin d'' (fun j hj => ?_) ho hL
            by_cases ej : j = p
            · rw [ej, hsame p (by omega), hd' p (by omega)]
            · rw [hd j (by omega), hd1 j (by omega)]
        · refine ⟨fun _ => hnext h' hs' (fun i hi => ?_) (fun d'' hd e => hno' d'' (fun i hi => ?_)), fun q => absurd rfl q⟩
          · have h9 := hrow i (by omega)
            rw [mg_congr (hd1 i hi), vl_congr (hd1 i hi)] at h9
            exact h9
          · by_cases ei : i = p
            · rw [ei, e, hdp]
            · rw [hd i (by omega), hd1 i (by omega)]
    exact ⟨(pl g nm r p).length + 1, key ((pl g nm r p).length + 1) 0 h (by omega) (by omega) hs (fun i hi => (hpre i hi).2.2.2) (fun d'' _ q => absurd q (by omega))⟩
/-- the search from the first part on -/
theorem w_fm0 {hv g h : RS} {nm r P : Nat} {Q : Int32 → RS → Prop} (hr : r < 8) (S : SRv hv g nm r P) (hs : scrV hv h) (f : ∀ (h' : RS) (d : Nat → Nat), scrV hv h' → FST g nm r P d → (∀ i, i < P → h' 11 i = nI (mg g nm r d i) ∧ h' 12 i = vl g nm r d i) → Q 1 h') (g0 : ∀ h' : RS, scrV hv h' → NON g nm r P → Q 0 h') : ∃ d7 : Nat, d7 ≤ 5 ∧ wp_V_fillMatch d7 h r (0 : Int32) Q := by
  refine ⟨5, by omega, ?_⟩
  have hP := S.1
  exact w_fm hr S 5 0 (fun _ => 0) h Q hs (by omega) (by omega) (fun i hi => absurd hi (by omega)) (fun h' d' hs' _ ho hrow hmin => f h' d' hs' ⟨ho, fun d'' hd => hmin d'' (fun i hi => absurd hi (by omega)) hd⟩ hrow) (fun h' hs' _ hno => g0 h' hs' (fun d => hno d (fun i hi => absurd hi (by omega))))
