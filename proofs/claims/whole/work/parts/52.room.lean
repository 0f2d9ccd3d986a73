/-! room -/
def PO (g : RS) (r c : Nat) : Nat → Nat
  | 0 => 0
  | n + 1 => PO g r c n + (if g 3 (4 * r + n) = nI c then 1 else 0)
def ST (g : RS) (r c : Nat) : Nat → Nat
  | 0 => 0
  | n + 1 => ST g r c n + (if g 9 (4 * r + n) = nI c then 1 else 0)
def SC (g : RS) (r : Nat) : Nat → Nat
  | 0 => 0
  | n + 1 => SC g r n + (if g 9 (4 * r + n) < 0 then 0 else 1)
def TS (g : RS) (r na : Nat) : Nat → Nat
  | 0 => 0
  | k + 1 => TS g r na k + ST g r k na
def ROOM (g : RS) (nm nc r P na : Nat) : Prop := (∀ c, c < nc → (pend g nm c).length + ST g r c na ≤ 6 + PO g r c P) ∧ nm + SC g r na ≤ 300
theorem PO_le (g : RS) (r c : Nat) : ∀ n, PO g r c n ≤ n := by
  intro n
  induction n with
  | zero => exact Nat.le_refl _
  | succ n ih =>
    show PO g r c n + _ ≤ n + 1
    split <;> omega
theorem ST_le (g : RS) (r c : Nat) : ∀ n, ST g r c n ≤ n := by
  intro n
  induction n with
  | zero => exact Nat.le_refl _
  | succ n ih =>
    show ST g r c n + _ ≤ n + 1
    split <;> omega
theorem SC_le (g : RS) (r : Nat) : ∀ n, SC g r n ≤ n := by
  intro n
  induction n with
  | zero => exact Nat.le_refl _
  | succ n ih =>
    show SC g r n + _ ≤ n + 1
    split <;> omega
theorem TS_add (g : RS) (r na : Nat) : ∀ k, k ≤ 8 → TS g r (na + 1) k = TS g r na k + (if ∃ c, c < k ∧ g 9 (4 * r + na) = nI c then 1 else 0) := by
  intro k
  induction k with
  | zero =>
    intro _
    rw [if_neg (fun ⟨c, hc, _⟩ => absurd hc (Nat.not_lt_zero _))]
    rfl
  | succ k ih =>
    intro hk
    show TS g r (na + 1) k + (ST g r k na + (if g 9 (4 * r + na) = nI k then 1 else 0)) = TS g r na k + ST g r k na + _
    rw [ih (by omega)]
    by_cases h1 : g 9 (4 * r + na) = nI k
    · have h2 : ¬ ∃ c, c < k ∧ g 9 (4 * r + na) = nI c := fun ⟨c, hc, e⟩ => by
        have := nI_inj (by omega) (by omega) (h1.symm.trans e)
        omega
      rw [if_pos h1, if_neg h2, if_pos ⟨k, by omega, h1⟩]
      omega
    · rw [if_neg h1]
      by_cases h2 : ∃ c, c < k ∧ g 9 (4 * r + na) = nI c
      · obtain ⟨c, hc, e⟩ := h2
        rw [if_pos ⟨c, hc, e⟩, if_pos ⟨c, by omega, e⟩]
        omega
      · rw [if_neg h2, if_neg (fun ⟨c, hc, e⟩ => by
          by_cases ek : c = k
          · rw [ek] at e; exact h1 e
          · exact h2 ⟨c, by omega, e⟩)]
        omega
theorem TS_0 (g : RS) (r : Nat) : ∀ k, TS g r 0 k = 0 := by
  intro k
  induction k with
  | zero => rfl
  | succ k ih =>
    show TS g r 0 k + 0 = 0
    rw [ih]
theorem TS_SC {g : RS} {r nc : Nat} (hc : nc ≤ 8) : ∀ na, (∀ i, i < na → (∃ c, c < nc ∧ g 9 (4 * r + i) = nI c) ∨ g 9 (4 * r + i) = -1) → TS g r na nc = SC g r na := by
  intro na
  induction na with
  | zero => intro _; exact TS_0 g r nc
  | succ na ih =>
    intro h
    rw [TS_add g r na nc hc, ih (fun i hi => h i (by omega))]
    show SC g r na + _ = SC g r na + _
    congr 1
    rcases h na (by omega) with ⟨c, h1, h2⟩ | h2
    · rw [if_pos ⟨c, h1, h2⟩, if_neg (by rw [h2]; exact nI_pos (by omega))]
    · rw [if_neg (fun ⟨c, h3, h4⟩ => nI_m1 (a := c) (by omega) (h4.symm.trans h2)), if_pos (by rw [h2]; decide)]
theorem left_le : ∀ L, L < 7 → ∀ po, po < 5 → ∀ s, s < 5 → (nI L - nI po + nI s ≤ 6 ↔ L + s ≤ 6 + po) := by decide +kernel
theorem left_le2 : ∀ a, a < 11 → ∀ po, po < 5 → (6 < nI a - nI po ↔ ¬ a ≤ 6 + po) := by decide +kernel
theorem lf_dec : ∀ a, a < 11 → ∀ b, b < 5 → nI a - nI b - 1 = nI a - nI (b + 1) := by decide +kernel
theorem lf_inc : ∀ a, a < 11 → ∀ b, b < 5 → nI a - nI b + 1 = nI (a + 1) - nI b := by decide +kernel
theorem lf_0 : ∀ a, a < 11 → nI a = nI a - nI 0 := by decide +kernel
/-- what room rests on, in reaction r -/
def SRr (hv g : RS) (nc r P na : Nat) : Prop := nc ≤ 8 ∧ P ≤ 4 ∧ na ≤ 4 ∧ (∀ i, i < P → hv (37 + r) i = g 3 (4 * r + i)) ∧ (∀ i, i < na → (hv (61 + r) i = 1 ∧ (∃ c : Nat, c < nc ∧ g 9 (4 * r + i) = nI c) ∧ hv (69 + r) i = g 9 (4 * r + i)) ∨ (hv (61 + r) i = 0 ∧ g 9 (4 * r + i) = -1))
theorem SRr_of {hv g : RS} {nc r np na : Nat} (hc : nc ≤ 8) (h : JR hv g nc r np na) : SRr hv g nc r np na := by
  obtain ⟨r1, r2, r3, r4, r5, r6, r7, r8, r9, r10, r11⟩ := h
  refine ⟨hc, r3, r6, fun i hi => ?_, fun i hi => ?_⟩
  · obtain ⟨c, t, p1, p2, p3, p4, -⟩ := r10 i hi
    rw [p3, p4]
  · obtain ⟨-, -, -, -, h5⟩ := r11 i hi
    rcases h5 with ⟨g1, c, g2, g3, g4⟩ | ⟨g1, g2, -⟩
    · exact Or.inl ⟨g1, ⟨c, g2, g4⟩, by rw [g3, g4]⟩
    · exact Or.inr ⟨g1, g2⟩
theorem w_po {hv g h : RS} {nc r P na c : Nat} {Q : Int32 → RS → Prop} (hr : r < 8) (S : SRr hv g nc r P na) (hs : scrV hv h) (e0 : hv (29 + r) 0 = nI P) (q : Q (nI (PO g r c P)) h) : wp_Re_partsOn h r (nI c) Q := by
  obtain ⟨s0, s1, s2, s3, s4⟩ := S
  have key : ∀ n i, P - i < n → i ≤ P → wp_Re_partsOn_4 Q n h r (nI c) (nI (PO g r c i)) (nI i) := by
    intro n
    induction n with
    | zero => intro i w; omega
    | succ n ih =>
      intro i hn hi
      show bp_Re_partsOn_4 (wp_Re_partsOn_4 Q n) Q h r (nI c) _ (nI i)
      unfold bp_Re_partsOn_4
      refine c_le (by rw [hs (29 + r) (by omega) (by omega)]; exact e0) rfl (by omega) (by omega) (fun hle => ?_) (fun hlt => ⟨i, by omega, rfl, ?_⟩)
      · rw [show i = P by omega]; exact q
      rw [hs (37 + r) (by omega) (by omega), s3 i hlt, nI_1, nI_1]
      have h9 := ih (i + 1) (by omega) (by omega)
      refine ⟨fun w => ?_, fun w => ?_⟩
      · have e : PO g r c (i + 1) = PO g r c i := by show PO g r c i + _ = _; rw [if_neg w]; rfl
        rw [e] at h9; exact h9
      · have e : PO g r c (i + 1) = PO g r c i + 1 := by show PO g r c i + _ = _; rw [if_pos w]
        rw [e] at h9; exact h9
  exact ⟨P + 1, key (P + 1) 0 (by omega) (by omega)⟩
theorem w_st {hv g h : RS} {nc r P na c : Nat} {Q : Int32 → RS → Prop} (hr : r < 8) (S : SRr hv g nc r P na) (hc8 : c < 8) (hs : scrV hv h) (e6 : hv (29 + r) 6 = nI na) (q : Q (nI (ST g r c na)) h) : wp_Re_sendsTo h r (nI c) Q := by
  obtain ⟨s0, s1, s2, s3, s4⟩ := S
  have key : ∀ n i, na - i < n → i ≤ na → wp_Re_sendsTo_4 Q n h r (nI c) (nI (ST g r c i)) (nI i) := by
    intro n
    induction n with
    | zero => intro i w; omega
    | succ n ih =>
      intro i hn hi
      show bp_Re_sendsTo_4 (wp_Re_sendsTo_4 Q n) Q h r (nI c) _ (nI i)
      unfold bp_Re_sendsTo_4
      refine c_le (by rw [hs (29 + r) (by omega) (by omega)]; exact e6) rfl (by omega) (by omega) (fun hle => ?_) (fun hlt => ⟨i, by omega, rfl, ?_⟩)
      · rw [show i = na by omega]; exact q
      rw [hs (61 + r) (by omega) (by omega), hs (69 + r) (by omega) (by omega), nI_1, nI_1]
      have h9 := ih (i + 1) (by omega) (by omega)
      rcases s4 i hlt with ⟨w1, -, w3⟩ | ⟨w1, w2⟩
      · refine br_f (by rw [w1]; exact ne01) ⟨i, by omega, rfl, ?_⟩
        rw [w3]
        refine ⟨fun w => ?_, fun w => ?_⟩
        · have e : ST g r c (i + 1) = ST g r c i := by show ST g r c i + _ = _; rw [if_neg w]; rfl
          rw [e] at h9; exact h9
        · have e : ST g r c (i + 1) = ST g r c i + 1 := by show ST g r c i + _ = _; rw [if_pos w]
          rw [e] at h9; exact h9
      · have e : ST g r c (i + 1) = ST g r c i := by show ST g r c i + _ = _; rw [if_neg (fun w => nI_m1 (a := c) (by omega) (w.symm.trans w2))]; rfl
        rw [e] at h9
        exact br_t w1 h9
  exact ⟨na + 1, key (na + 1) 0 (by omega) (by omega)⟩
theorem w_sc {hv g h : RS} {nc r P na : Nat} {Q : Int32 → RS → Prop} (hr : r < 8) (S : SRr hv g nc r P na) (hs : scrV hv h) (e6 : hv (29 + r) 6 = nI na) (q : Q (nI (SC g r na)) h) : wp_Re_sendCount h r Q := by
  obtain ⟨s0, s1, s2, s3, s4⟩ := S
  have key : ∀ n i, na - i < n → i ≤ na → wp_Re_sendCount_4 Q n h r (nI (SC g r i)) (nI i) := by
    intro n
    induction n with
    | zero => intro i w; omega
    | succ n ih =>
      intro i hn hi
      show bp_Re_sendCount_4 (wp_Re_sendCount_4 Q n) Q h r _ (nI i)
      unfold bp_Re_sendCount_4
      refine c_le (by rw [hs (29 + r) (by omega) (by omega)]; exact e6) rfl (by omega) (by omega) (fun hle => ?_) (fun hlt => ⟨i, by omega, rfl, ?_⟩)
      · rw [show i = na by omega]; exact q
      rw [hs (61 + r) (by omega) (by omega), nI_1, nI_1]
      have h9 := ih (i + 1) (by omega) (by omega)
      rcases s4 i hlt with ⟨w1, ⟨c, w2, w4⟩, w3⟩ | ⟨w1, w2⟩
      · have e : SC g r (i + 1) = SC g r i + 1 := by show SC g r i + _ = _; rw [if_neg (by rw [w4]; exact nI_pos (by omega))]
        rw [e] at h9
        exact br_f (by rw [w1]; exact ne01) h9
      · have e : SC g r (i + 1) = SC g r i := by show SC g r i + _ = _; rw [if_pos (by rw [w2]; decide)]; rfl
        rw [e] at h9
        exact br_t w1 h9
  exact ⟨na + 1, key (na + 1) 0 (by omega) (by omega)⟩
theorem w_roomV {hv g h : RS} {nc nr nm nf r : Nat} {np na : Nat → Nat} {Q : Int32 → RS → Prop} (hB : JB hv g nc nr np na) (hM : JM hv g nc nr nm nf) (hr : r < 8) (hs : scrV hv h) (f : ROOM g nm nc r (np r) (na r) → Q 1 h) (g0 : ¬ ROOM g nm nc r (np r) (na r) → Q 0 h) : wp_V_hasRoom h r Q := by
  obtain ⟨b1, b2, b3, b4, b5, b6, b7, b8⟩ := hB
  have hR := b8 r hr
  have S := SRr_of b3 hR
  obtain ⟨r1, r2, r3, r4, r5, r6, -⟩ := hR
  obtain ⟨m1, m2, m3, m4, m5, m6, m7, m8, m9, m10⟩ := hM
  have hsc := SC_le g r (na r)
  unfold wp_V_hasRoom bp_V_hasRoom_0
  refine w_sc hr S hs r4 ?_
  have e3 : h 3 0 + nI (SC g r (na r)) = nI (nm + SC g r (na r)) := by rw [hs 3 (by omega) (by omega), m1, nI_add]
  refine c_le (b := 300) e3 rfl (by omega) (by omega) (fun h300 => ?_) (fun h300 => ⟨isB_0, g0 (fun w => absurd w.2 (by omega))⟩)
  have key : ∀ n c, nc - c < n → c ≤ nc → (∀ c', c' < c → (pend g nm c').length + ST g r c' (na r) ≤ 6 + PO g r c' (np r)) → wp_V_hasRoom_22 Q n h r (nI c) := by
    intro n
    induction n with
    | zero => intro c w; omega
    | succ n ih =>
      intro c hn hc hno
      show bp_V_hasRoom_22 (wp_V_hasRoom_22 Q n) Q h r (nI c)
      unfold bp_V_hasRoom_22
      refine c_le (by rw [hs 0 (by omega) (by omega)]; exact b1) rfl (by omega) (by omega) (fun hle => ⟨isB_1, f ⟨fun c' hc' => hno c' (by omega), h300⟩⟩) (fun hlt => ⟨c, by omega, rfl, ?_⟩)
      refine w_po hr S hs r1 (w_st hr S (by omega) hs r4 ?_)
      obtain ⟨p1, p2, -⟩ := m10 c (by omega)
      have hpo := PO_le g r c (np r)
      have hst := ST_le g r c (na r)
      rw [hs (13 + c) (by omega) (by omega), p2]
      have hl := left_le (pend g nm c).length (by omega) (PO g r c (np r)) (by omega) (ST g r c (na r)) (by omega)
      refine ⟨fun w => ?_, fun w => ⟨isB_0, g0 (fun w2 => w (hl.mpr (w2.1 c hlt)))⟩⟩
      rw [nI_1]
      refine ih (c + 1) (by omega) (by omega) (fun c' hc' => ?_)
      by_cases e : c' = c
      · rw [e]; exact hl.mp w
      · exact hno c' (by omega)
  exact ⟨nc + 1, key (nc + 1) 0 (by omega) (by omega) (fun c' w => absurd w (by omega))⟩
theorem w_roomM {hv g h : RS} {nc nr nm nf r : Nat} {np na : Nat → Nat} {Q : Int32 → RS → Prop} (hB : JB hv g nc nr np na) (hM : JM hv g nc nr nm nf) (hr : r < 8) (hs : scrM g h) (hg : GA g nm h) (f : ROOM g nm nc r (np r) (na r) → Q 1 h) (g0 : ¬ ROOM g nm nc r (np r) (na r) → Q 0 h) : wp_M_room h (nI r) Q := by
  obtain ⟨b1, b2, b3, b4, b5, b6, b7, b8⟩ := hB
  have hR := b8 r hr
  have S := SRr_of b3 hR
  obtain ⟨r1, r2, r3, r4, r5, r6, -⟩ := hR
  obtain ⟨m1, m2, m3, m4, m5, m6, m7, m8, m9, m10⟩ := hM
  have hsc := SC_le g r (na r)
  have hTS : TS g r (na r) nc = SC g r (na r) := TS_SC b3 (na r) (fun i hi => by
    rcases S.2.2.2.2 i hi with ⟨-, w, -⟩ | ⟨-, w⟩
    · exact Or.inl w
    · exact Or.inr w)
  have e2 : h 2 r = nI (np r) := by rw [hs 2 (by omega)]; exact r2
  have e8 : h 8 r = nI (na r) := by rw [hs 8 (by omega)]; exact r5
  have key : ∀ n c (b : Int32), nc - c < n → c ≤ nc → FL b (∀ c', c' < c → (pend g nm c').length + ST g r c' (na r) ≤ 6 + PO g r c' (np r)) → wp_M_room_7 Q n h (nI r) (nI (TS g r (na r) c)) b (nI c) := by
    intro n
    induction n with
    | zero => intro c b w; omega
    | succ n ih =>
      intro c b hn hc hb
      show bp_M_room_7 (wp_M_room_7 Q n) Q h (nI r) _ b (nI c)
      unfold bp_M_room_7
      refine c_le (by rw [hs 0 (by omega)]; exact b2) rfl (by omega) (by omega) (fun hle => ?_) (fun hlt => ⟨c, by omega, rfl, ?_⟩)
      · have ec : c = nc := by omega
        subst ec
        rcases hb with ⟨rfl, w⟩ | ⟨rfl, w⟩
        · have e16 : h 0 16 + nI (TS g r (na r) c) = nI (nm + SC g r (na r)) := by rw [hs 0 (by omega), m2, hTS, nI_add]
          exact br_f ne01 (c_lt (a := 300) rfl e16 (by omega) (by omega) (fun w2 => ⟨isB_0, g0 (fun w3 => absurd w3.2 (by omega))⟩) (fun w2 => ⟨isB_1, f ⟨w, w2⟩⟩))
        · exact br_t rfl ⟨isB_0, g0 (fun w3 => w w3.1)⟩
      obtain ⟨p1, p2, -⟩ := m10 c (by omega)
      rw [hg.1 c (by omega)]
      have k2 : ∀ n2 i, 4 - i < n2 → i ≤ 4 → wp_M_room_28 (wp_M_room_7 Q n) Q n2 h (nI r) (nI (TS g r (na r) c + ST g r c (min i (na r)))) b (nI c) (nI ((pend g nm c).length + ST g r c (min i (na r))) - nI (PO g r c (min i (np r)))) (nI i) := by
        intro n2
        induction n2 with
        | zero => intro i w; omega
        | succ n2 ih2 =>
          intro i hn2 hi
          show bp_M_room_28 (wp_M_room_7 Q n) (wp_M_room_28 (wp_M_room_7 Q n) Q n2) Q h (nI r) _ b (nI c) _ (nI i)
          unfold bp_M_room_28 bp_M_room_156
          have hpo := PO_le g r c (min i (np r))
          have hst := ST_le g r c (min i (na r))
          refine c_le (a := 4) rfl rfl (by omega) (by omega) (fun hle => ?_) (fun hlt2 => ?_)
          · have ei : i = 4 := by omega
            subst ei
            rw [show min 4 (na r) = na r by omega, show min 4 (np r) = np r by omega] at *
            rw [nI_1]
            have eT : TS g r (na r) c + ST g r c (na r) = TS g r (na r) (c + 1) := rfl
            rw [eT]
            have hl := left_le2 ((pend g nm c).length + ST g r c (na r)) (by omega) (PO g r c (np r)) (by omega)
            rcases hb with ⟨rfl, w⟩ | ⟨rfl, w⟩
            · refine br_f ne01 ⟨fun w2 => ih (c + 1) 0 (by omega) (by omega) (Or.inr ⟨rfl, fun w3 => hl.mp w2 (w3 c (by omega))⟩), fun w2 => ih (c + 1) 1 (by omega) (by omega) (Or.inl ⟨rfl, fun c' hc' => ?_⟩)⟩
              by_cases e : c' = c
              · rw [e]
                have h9 : ¬ ¬ (pend g nm c).length + ST g r c (na r) ≤ 6 + PO g r c (np r) := fun w3 => w2 (hl.mpr w3)
                omega
              · exact w c' (by omega)
            · exact br_t rfl (ih (c + 1) 0 (by omega) (by omega) (Or.inr ⟨rfl, fun w3 => w (fun c' hc' => w3 c' (by omega))⟩))
          -- the parts' side, then the actions' side
          have sAct : ∀ po : Nat, po = PO g r c (min (i + 1) (np r)) → bp_M_room_70 (wp_M_room_7 Q n) (wp_M_room_28 (wp_M_room_7 Q n) Q n2) Q h (nI r) (nI (TS g r (na r) c + ST g r c (min i (na r)))) b (nI c) (nI i) (nI ((pend g nm c).length + ST g r c (min i (na r))) - nI po) := by
            intro po epo
            have hpo2 := PO_le g r c (min (i + 1) (np r))
            unfold bp_M_room_70 bp_M_room_103 bp_M_room_104 bp_M_room_120
            rw [nI_1, nI_1]
            have h9 := ih2 (i + 1) (by omega) (by omega)
            rw [← epo] at h9
            refine ⟨r, hr, rfl, c_le e8 rfl (by omega) (by omega) (fun h3 => ?_) (fun h3 => ⟨4 * r + i, by omega, by rw [ix4r], ?_⟩)⟩
            · rw [show min (i + 1) (na r) = min i (na r) by omega] at h9
              exact br_t rfl (br_t rfl h9)
            · rw [hs 9 (by omega)]
              rw [show min (i + 1) (na r) = i + 1 by omega] at h9
              rw [show min i (na r) = i by omega] at hst ⊢
              refine ⟨fun w => ?_, fun w => ?_⟩
              · have e : ST g r c (i + 1) = ST g r c i := by show ST g r c i + _ = _; rw [if_neg w]; rfl
                rw [e] at h9
                exact br_t rfl (br_t rfl h9)
              · have e : ST g r c (i + 1) = ST g r c i + 1 := by show ST g r c i + _ = _; rw [if_pos w]
                rw [e, ← Nat.add_assoc, ← Nat.add_assoc] at h9
                refine br_f ne01 (br_f ne01 ?_)
                rw [lf_inc _ (by omega) po (by omega)]
                exact h9
          unfold bp_M_room_68
          refine ⟨r, hr, rfl, c_le e2 rfl (by omega) (by omega) (fun h3 => ?_) (fun h3 => ⟨4 * r + i, by omega, by rw [ix4r], ?_⟩)⟩
          · exact sAct _ (by rw [show min (i + 1) (np r) = min i (np r) by omega])
          · rw [hs 3 (by omega)]
            refine ⟨fun w => sAct _ ?_, fun w => ?_⟩
            · rw [show min (i + 1) (np r) = i + 1 by omega, show min i (np r) = i by omega]
              show PO g r c i = PO g r c i + _
              rw [if_neg w]; rfl
            · rw [lf_dec _ (by omega) _ (by omega)]
              refine sAct _ ?_
              rw [show min (i + 1) (np r) = i + 1 by omega, show min i (np r) = i by omega]
              show PO g r c i + 1 = PO g r c i + _
              rw [if_pos w]
      have h9 := k2 5 0 (by omega) (by omega)
      rw [show min 0 (na r) = 0 by omega, show min 0 (np r) = 0 by omega] at h9
      have e1 : nI ((pend g nm c).length + ST g r c 0) - nI (PO g r c 0) = nI (pend g nm c).length := (lf_0 _ (by show (pend g nm c).length + 0 < 11; omega)).symm
      rw [e1] at h9
      exact ⟨5, h9⟩
  exact ⟨nc + 1, key (nc + 1) 0 1 (by omega) (by omega) (Or.inl ⟨rfl, fun c' w => absurd w (by omega)⟩)⟩
