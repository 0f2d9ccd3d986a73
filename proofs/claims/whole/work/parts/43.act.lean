/-! building: emit, reply -/
def OKE (np : Nat) (x3 x4 : Int32) : Prop := ∃ k : Nat, k ≤ 4 ∧ x3 = nI k ∧ ((k = 1 ∨ k = 2) → ∃ p : Nat, p < np ∧ x4 = nI p)
theorem OKE_k {np k : Nat} {x4 : Int32} (hk : k < 5) : OKE np (nI k) x4 ↔ ((k = 1 ∨ k = 2) → ∃ p : Nat, p < np ∧ x4 = nI p) := by
  constructor
  · rintro ⟨k', h1, h2, h3⟩
    have e := nI_inj (by omega) (by omega) h2
    subst e
    exact h3
  · intro h
    exact ⟨k, by omega, rfl, h⟩
theorem w_maa {h : RS} {r np na : Nat} {x3 x4 : Int32} {Q : Int32 → RS → Prop} (e0 : h (29 + r) 0 = nI np) (e6 : h (29 + r) 6 = nI na) (hp : np ≤ 4) (ha : na ≤ 4) (f : OKE np x3 x4 → na < 4 → Q 1 h) (g : ¬ (OKE np x3 x4 ∧ na < 4) → Q 0 h) : wp_Re_mayAddAction h r x3 x4 Q := by
  unfold wp_Re_mayAddAction bp_Re_mayAddAction_0
  rcases ixc x3 (n := 4 + 1) (by omega) with hno | ⟨k, hk, rfl⟩
  · refine w_wi_n (n := 4) rfl (by omega) hno ⟨fun _ => ⟨isB_0, g ?_⟩, fun h => absurd rfl h⟩
    rintro ⟨⟨k, h1, h2, -⟩, -⟩
    exact hno k (by omega) h2
  refine w_wi_y (n := 4) rfl (by omega) hk ⟨fun h => absurd h ne01, fun _ => c_lt (b := 4) e6 rfl (by omega) (by omega) (fun hlt => ?_) (fun hge => ⟨isB_0, g (fun q => absurd q.2 (by omega))⟩)⟩
  have key : (k = 1 ∨ k = 2) → bp_Re_mayAddAction_28 Q h r x4 := by
    intro hk2
    unfold bp_Re_mayAddAction_28 bp_Re_mayAddAction_33
    refine ⟨fun h => absurd h ne01, fun _ => ?_⟩
    rcases ixc x4 (n := np) (by omega) with hno | ⟨p, hp1, rfl⟩
    · refine w_hp_n e0 (by omega) hno ⟨fun _ => ⟨isB_0, g ?_⟩, fun h => absurd rfl h⟩
      rintro ⟨q, -⟩
      obtain ⟨p, h1, h2⟩ := (OKE_k hk).mp q hk2
      exact hno p h1 h2
    · exact w_hp_y e0 (by omega) hp1 ⟨fun h => absurd h ne01, fun _ => ⟨isB_1, f ((OKE_k hk).mpr (fun _ => ⟨p, hp1, rfl⟩)) hlt⟩⟩
  refine c_eq (b := 1) rfl rfl (by omega) (by omega) (fun e => key (Or.inl e)) (fun e1 => c_ne (b := 2) rfl rfl (by omega) (by omega) (fun e => key (Or.inr e)) (fun e2 => ?_))
  unfold bp_Re_mayAddAction_33
  exact ⟨fun _ => ⟨isB_1, f ((OKE_k hk).mpr (fun q => by omega)) hlt⟩, fun h => absurd rfl h⟩
theorem w_exp {h : RS} {r np : Nat} {x3 x4 : Int32} {Q : Int32 → RS → Prop} (hr : r < 8) (e2 : h 2 r = nI np) (hp : np ≤ 4) (f : OKE np x3 x4 → Q 1 h) (g : ¬ OKE np x3 x4 → Q 0 h) : wp_M_expression h (nI r) x3 x4 Q := by
  unfold wp_M_expression bp_M_expression_0
  rcases ixc x3 (n := 4 + 1) (by omega) with hno | ⟨k, hk, rfl⟩
  · refine bw_no (n := 4) rfl (by omega) hno ⟨isB_0, g ?_⟩
    rintro ⟨k, h1, h2, -⟩
    exact hno k (by omega) h2
  refine bw_yes (n := 4) rfl (by omega) hk ?_
  have key : (k = 1 ∨ k = 2) → bp_M_expression_19 Q h (nI r) x4 := by
    intro hk2
    unfold bp_M_expression_19
    rcases ixc x4 (n := np) (by omega) with hno | ⟨p, hp1, rfl⟩
    · refine w_mhp_n hr e2 (by omega) hno ⟨fun _ => ⟨isB_0, g ?_⟩, fun h => absurd rfl h⟩
      intro q
      obtain ⟨p, h1, h2⟩ := (OKE_k hk).mp q hk2
      exact hno p h1 h2
    · exact w_mhp_y hr e2 (by omega) hp1 ⟨fun h => absurd h ne01, fun _ => ⟨isB_1, f ((OKE_k hk).mpr (fun _ => ⟨p, hp1, rfl⟩))⟩⟩
  exact c_eq (b := 1) rfl rfl (by omega) (by omega) (fun e => key (Or.inl e)) (fun e1 => c_ne (b := 2) rfl rfl (by omega) (by omega) (fun e => key (Or.inr e)) (fun e2 => ⟨isB_1, f ((OKE_k hk).mpr (fun q => by omega))⟩))
def addV (h : RS) (r n : Nat) (s tg k p x : Int32) : RS := up2 (up2 (up2 (up2 (up2 (up2 h (61 + r) n s) (69 + r) n tg) (77 + r) n k) (85 + r) n p) (93 + r) n x) (29 + r) 6 (nI (n + 1))
def addM (h : RS) (r n : Nat) (to pt k p x : Int32) : RS := up2 (up2 (up2 (up2 (up2 (up2 h 13 (4 * r + n) x) 9 (4 * r + n) to) 10 (4 * r + n) pt) 11 (4 * r + n) k) 12 (4 * r + n) p) 8 r (nI (n + 1))
theorem w_add {h : RS} {r n : Nat} {s tg k p x : Int32} {Q : RS → Prop} (e6 : h (29 + r) 6 = nI n) (hn : n < 4) (hs : isB s) (q : Q (addV h r n s tg k p x)) : wp_Re_addAction h r s tg k p x Q := by
  refine ⟨n, hn, e6, hs, ?_⟩
  rintro h2 rfl
  refine ⟨n, hn, e6, ?_⟩
  rintro h4 rfl
  refine ⟨n, hn, e6, ?_⟩
  rintro h6 rfl
  refine ⟨n, hn, e6, ?_⟩
  rintro h8 rfl
  refine ⟨n, hn, e6, ?_⟩
  rintro h10 rfl h11 rfl
  have e : up2 (up2 (up2 (up2 (up2 h (61 + r) n s) (69 + r) n tg) (77 + r) n k) (85 + r) n p) (93 + r) n x (29 + r) 6 + 1 = nI (n + 1) := by
    rw [up2_o (by omega), up2_o (by omega), up2_o (by omega), up2_o (by omega), up2_o (by omega), e6, nI_1]
  rw [e]
  exact q
theorem w_act {h : RS} {r n : Nat} {to pt k p x : Int32} {Q : RS → Prop} (hr : r < 8) (e8 : h 8 r = nI n) (hn : n < 4) (q : Q (addM h r n to pt k p x)) : wp_M_act (up2 h 13 (4 * r + n) x) (nI r) to pt k p Q := by
  have e8' : up2 h 13 (4 * r + n) x 8 r = nI n := by rw [up2_o (by omega)]; exact e8
  have e9 : (4 : Int32) * nI r + up2 h 13 (4 * r + n) x 8 r = nI (4 * r + n) := by rw [e8', ix4r]
  refine ⟨r, hr, rfl, 4 * r + n, by omega, e9, ?_⟩
  rintro h3 rfl
  refine ⟨4 * r + n, by omega, e9, ?_⟩
  rintro h5 rfl
  refine ⟨4 * r + n, by omega, e9, ?_⟩
  rintro h7 rfl
  refine ⟨4 * r + n, by omega, e9, ?_⟩
  rintro h9 rfl
  refine ⟨r, hr, rfl, r, hr, rfl, ?_⟩
  rintro h12 rfl
  have e : up2 (up2 (up2 (up2 (up2 h 13 (4 * r + n) x) 9 (4 * r + n) to) 10 (4 * r + n) pt) 11 (4 * r + n) k) 12 (4 * r + n) p 8 r + 1 = nI (n + 1) := by
    rw [up2_o (by omega), up2_o (by omega), up2_o (by omega), up2_o (by omega), e8', nI_1]
  rw [e]
  exact q
set_option maxHeartbeats 1000000 in
theorem J_add {hv hm : RS} {nc nr : Nat} {np na : Nat → Nat} (hB : JB hv hm nc nr np na) (hM : JM hv hm nc nr 0 0) (s1 : hv 0 4 = hm 0 15) (z : hm 0 15 = 0) {r : Nat} (hr : r < 8) (hn : na r < 4) {s tg to pt k p x : Int32} (hk : OKE (np r) k p) (hT : (s = 1 ∧ ∃ c : Nat, c < nc ∧ tg = nI c ∧ to = nI c) ∨ (s = 0 ∧ to = -1 ∧ ∃ q : Nat, q < np r ∧ tg = nI q ∧ pt = nI q)) : J (addV hv r (na r) s tg k p x) (addM hm r (na r) to pt k p x) := by
  obtain ⟨b1, b2, b3, b4, b5, b6, b7, b8⟩ := id hB
  obtain ⟨r1, r2, r3, r4, r5, r6, r7, r8, r9, r10, r11⟩ := b8 r hr
  unfold addV addM
  refine J_re (r := r) (n' := np r) (a' := na r + 1) hB hM s1 z ?_ ?_ ?_ ?_ ?_ ?_
  · intro i hi; rw [up2_f (by omega), up2_f (by omega), up2_f (by omega), up2_f (by omega), up2_f (by omega), up2_f (by omega)]
  · rw [up2_f (by omega), up2_f (by omega), up2_f (by omega), up2_f (by omega), up2_f (by omega), up2_f (by omega)]
  · rw [up2_f (by omega), up2_f (by omega), up2_f (by omega), up2_f (by omega), up2_f (by omega), up2_f (by omega)]
  · intro i hi; rw [up2_f (by omega), up2_f (by omega), up2_f (by omega), up2_f (by omega), up2_f (by omega), up2_f (by omega)]
  · intro r' hr' hne
    refine ⟨fun i h1 h2 => ?_, ?_, ?_, ?_, ?_, fun i p h1 h2 h3 h4 => ?_⟩
    · rw [up2_f (by omega), up2_f (by omega), up2_f (by omega), up2_f (by omega), up2_f (by omega), up2_f (by omega)]
    · rw [up2_o (by omega), up2_o (by omega), up2_o (by omega), up2_o (by omega), up2_o (by omega), up2_o (by omega)]
    · rw [up2_o (by omega), up2_o (by omega), up2_o (by omega), up2_o (by omega), up2_o (by omega), up2_o (by omega)]
    · rw [up2_o (by omega), up2_o (by omega), up2_o (by omega), up2_o (by omega), up2_o (by omega), up2_o (by omega)]
    · rw [up2_o (by omega), up2_o (by omega), up2_o (by omega), up2_o (by omega), up2_o (by omega), up2_o (by omega)]
    · rw [up2_o (by omega), up2_o (by omega), up2_o (by omega), up2_o (by omega), up2_o (by omega), up2_o (by omega)]
  · refine ⟨?_, ?_, r3, up2_s, up2_s, by omega, ?_, ?_, ?_, fun q hq => ?_, fun i hi => ?_⟩
    · rw [up2_o (by omega), up2_o (by omega), up2_o (by omega), up2_o (by omega), up2_o (by omega), up2_o (by omega)]; exact r1
    · rw [up2_o (by omega), up2_o (by omega), up2_o (by omega), up2_o (by omega), up2_o (by omega), up2_o (by omega)]; exact r2
    · rw [up2_o (by omega), up2_o (by omega), up2_o (by omega), up2_o (by omega), up2_o (by omega), up2_o (by omega), up2_o (by omega), up2_o (by omega), up2_o (by omega), up2_o (by omega), up2_o (by omega), up2_o (by omega)]; exact r7
    · rw [up2_o (by omega), up2_o (by omega), up2_o (by omega), up2_o (by omega), up2_o (by omega), up2_o (by omega)]; exact r8
    · rw [up2_o (by omega), up2_o (by omega), up2_o (by omega), up2_o (by omega), up2_o (by omega), up2_o (by omega), up2_o (by omega), up2_o (by omega), up2_o (by omega), up2_o (by omega), up2_o (by omega), up2_o (by omega)]; exact r9
    · obtain ⟨c', t', p1, p2, p3, p4, p5, p6, p7⟩ := r10 q hq
      refine ⟨c', t', p1, p2, ?_, ?_, ?_, ?_, ?_⟩
      · rw [up2_o (by omega), up2_o (by omega), up2_o (by omega), up2_o (by omega), up2_o (by omega), up2_o (by omega)]; exact p3
      · rw [up2_o (by omega), up2_o (by omega), up2_o (by omega), up2_o (by omega), up2_o (by omega), up2_o (by omega)]; exact p4
      · rw [up2_o (by omega), up2_o (by omega), up2_o (by omega), up2_o (by omega), up2_o (by omega), up2_o (by omega)]; exact p5
      · rw [up2_o (by omega), up2_o (by omega), up2_o (by omega), up2_o (by omega), up2_o (by omega), up2_o (by omega)]; exact p6
      · rw [up2_o (by omega), up2_o (by omega), up2_o (by omega), up2_o (by omega), up2_o (by omega), up2_o (by omega), up2_o (by omega), up2_o (by omega), up2_o (by omega), up2_o (by omega), up2_o (by omega), up2_o (by omega)]; exact p7
    · by_cases hin : i = na r
      · subst hin
        have v77 : up2 (up2 (up2 (up2 (up2 (up2 hv (61 + r) (na r) s) (69 + r) (na r) tg) (77 + r) (na r) k) (85 + r) (na r) p) (93 + r) (na r) x) (29 + r) 6 (nI (na r + 1)) (77 + r) (na r) = k := by
          rw [up2_o (by omega), up2_o (by omega), up2_o (by omega), up2_s]
        have v85 : up2 (up2 (up2 (up2 (up2 (up2 hv (61 + r) (na r) s) (69 + r) (na r) tg) (77 + r) (na r) k) (85 + r) (na r) p) (93 + r) (na r) x) (29 + r) 6 (nI (na r + 1)) (85 + r) (na r) = p := by
          rw [up2_o (by omega), up2_o (by omega), up2_s]
        have v93 : up2 (up2 (up2 (up2 (up2 (up2 hv (61 + r) (na r) s) (69 + r) (na r) tg) (77 + r) (na r) k) (85 + r) (na r) p) (93 + r) (na r) x) (29 + r) 6 (nI (na r + 1)) (93 + r) (na r) = x := by
          rw [up2_o (by omega), up2_s]
        have v61 : up2 (up2 (up2 (up2 (up2 (up2 hv (61 + r) (na r) s) (69 + r) (na r) tg) (77 + r) (na r) k) (85 + r) (na r) p) (93 + r) (na r) x) (29 + r) 6 (nI (na r + 1)) (61 + r) (na r) = s := by
          rw [up2_o (by omega), up2_o (by omega), up2_o (by omega), up2_o (by omega), up2_o (by omega), up2_s]
        have v69 : up2 (up2 (up2 (up2 (up2 (up2 hv (61 + r) (na r) s) (69 + r) (na r) tg) (77 + r) (na r) k) (85 + r) (na r) p) (93 + r) (na r) x) (29 + r) 6 (nI (na r + 1)) (69 + r) (na r) = tg := by
          rw [up2_o (by omega), up2_o (by omega), up2_o (by omega), up2_o (by omega), up2_s]
        have w11 : up2 (up2 (up2 (up2 (up2 (up2 hm 13 (4 * r + na r) x) 9 (4 * r + na r) to) 10 (4 * r + na r) pt) 11 (4 * r + na r) k) 12 (4 * r + na r) p) 8 r (nI (na r + 1)) 11 (4 * r + na r) = k := by
          rw [up2_o (by omega), up2_o (by omega), up2_s]
        have w12 : up2 (up2 (up2 (up2 (up2 (up2 hm 13 (4 * r + na r) x) 9 (4 * r + na r) to) 10 (4 * r + na r) pt) 11 (4 * r + na r) k) 12 (4 * r + na r) p) 8 r (nI (na r + 1)) 12 (4 * r + na r) = p := by
          rw [up2_o (by omega), up2_s]
        have w13 : up2 (up2 (up2 (up2 (up2 (up2 hm 13 (4 * r + na r) x) 9 (4 * r + na r) to) 10 (4 * r + na r) pt) 11 (4 * r + na r) k) 12 (4 * r + na r) p) 8 r (nI (na r + 1)) 13 (4 * r + na r) = x := by
          rw [up2_o (by omega), up2_o (by omega), up2_o (by omega), up2_o (by omega), up2_o (by omega), up2_s]
        have w9 : up2 (up2 (up2 (up2 (up2 (up2 hm 13 (4 * r + na r) x) 9 (4 * r + na r) to) 10 (4 * r + na r) pt) 11 (4 * r + na r) k) 12 (4 * r + na r) p) 8 r (nI (na r + 1)) 9 (4 * r + na r) = to := by
          rw [up2_o (by omega), up2_o (by omega), up2_o (by omega), up2_o (by omega), up2_s]
        have w10 : up2 (up2 (up2 (up2 (up2 (up2 hm 13 (4 * r + na r) x) 9 (4 * r + na r) to) 10 (4 * r + na r) pt) 11 (4 * r + na r) k) 12 (4 * r + na r) p) 8 r (nI (na r + 1)) 10 (4 * r + na r) = pt := by
          rw [up2_o (by omega), up2_o (by omega), up2_o (by omega), up2_s]
        unfold JA
        rw [v77, v85, v93, v61, v69, w11, w12, w13, w9, w10]
        exact ⟨rfl, hk, rfl, rfl, hT⟩
      · have hi2 : i < na r := by omega
        unfold JA
        rw [up2_o (j := 77 + r) (by omega), up2_o (j := 77 + r) (by omega), up2_o (j := 77 + r) (by omega), up2_o (j := 77 + r) (by omega), up2_o (j := 77 + r) (by omega), up2_o (j := 77 + r) (by omega)]
        rw [up2_o (j := 85 + r) (by omega), up2_o (j := 85 + r) (by omega), up2_o (j := 85 + r) (by omega), up2_o (j := 85 + r) (by omega), up2_o (j := 85 + r) (by omega), up2_o (j := 85 + r) (by omega)]
        rw [up2_o (j := 93 + r) (by omega), up2_o (j := 93 + r) (by omega), up2_o (j := 93 + r) (by omega), up2_o (j := 93 + r) (by omega), up2_o (j := 93 + r) (by omega), up2_o (j := 93 + r) (by omega)]
        rw [up2_o (j := 61 + r) (by omega), up2_o (j := 61 + r) (by omega), up2_o (j := 61 + r) (by omega), up2_o (j := 61 + r) (by omega), up2_o (j := 61 + r) (by omega), up2_o (j := 61 + r) (by omega)]
        rw [up2_o (j := 69 + r) (by omega), up2_o (j := 69 + r) (by omega), up2_o (j := 69 + r) (by omega), up2_o (j := 69 + r) (by omega), up2_o (j := 69 + r) (by omega), up2_o (j := 69 + r) (by omega)]
        rw [up2_o (j := 11) (by omega), up2_o (j := 11) (by omega), up2_o (j := 11) (by omega), up2_o (j := 11) (by omega), up2_o (j := 11) (by omega), up2_o (j := 11) (by omega)]
        rw [up2_o (j := 12) (by omega), up2_o (j := 12) (by omega), up2_o (j := 12) (by omega), up2_o (j := 12) (by omega), up2_o (j := 12) (by omega), up2_o (j := 12) (by omega)]
        rw [up2_o (j := 13) (by omega), up2_o (j := 13) (by omega), up2_o (j := 13) (by omega), up2_o (j := 13) (by omega), up2_o (j := 13) (by omega), up2_o (j := 13) (by omega)]
        rw [up2_o (j := 9) (by omega), up2_o (j := 9) (by omega), up2_o (j := 9) (by omega), up2_o (j := 9) (by omega), up2_o (j := 9) (by omega), up2_o (j := 9) (by omega)]
        rw [up2_o (j := 10) (by omega), up2_o (j := 10) (by omega), up2_o (j := 10) (by omega), up2_o (j := 10) (by omega), up2_o (j := 10) (by omega), up2_o (j := 10) (by omega)]
        exact r11 i hi2
theorem st_emit {hv hm : RS} (hJ : J hv hm) (x1 x2 x3 x4 x5 : Int32) : wp_V_emit hv x1 x2 x3 x4 x5 (fun r h1 => wp_M_emit hm x1 x2 x3 x4 x5 (fun r2 h2 => r = r2 ∧ J h1 h2)) := by
  have hJ0 := hJ
  obtain ⟨nc, nr, nm, nf, np, na, hB, hM, s1, hS⟩ := hJ
  obtain ⟨b1, b2, b3, b4, b5, b6, b7, b8⟩ := id hB
  unfold wp_V_emit bp_V_emit_0 wp_M_emit bp_M_emit_0
  rcases hS with ⟨z, rfl, rfl⟩ | ⟨z, hS⟩
  rotate_left
  · have hz : ¬ hm 0 15 = 0 := by rw [z]; exact ne01
    exact w_may_s (by rw [s1]; exact hz) ⟨fun _ => ⟨isB_0, w_open_s hz ⟨fun _ => ⟨isB_0, rfl, hJ0⟩, fun h => absurd rfl h⟩⟩, fun h => absurd rfl h⟩
  have z1 : hv 0 4 = 0 := s1.trans z
  rcases ixc x1 (n := nr) (by omega) with hno | ⟨r, hr, rfl⟩
  · exact w_may_n z1 b4 (by omega) hno ⟨fun _ => ⟨isB_0, w_open_n z b5 (by omega) hno ⟨fun _ => ⟨isB_0, rfl, hJ0⟩, fun h => absurd rfl h⟩⟩, fun h => absurd rfl h⟩
  refine w_may_y z1 b4 (by omega) hr ⟨fun h => absurd h ne01, fun _ => ?_⟩
  unfold wp_V_isChannelOf bp_V_isChannelOf_0
  rcases ixc x2 (n := nc) (by omega) with hno | ⟨c, hc, rfl⟩
  · exact w_ch_n b1 (by omega) hno ⟨fun _ => ⟨isB_0, fun h => absurd rfl h, fun _ => ⟨isB_0, w_open_y z b5 (by omega) hr ⟨fun h => absurd h ne01, fun _ => w_mch_n b2 (by omega) hno ⟨fun _ => ⟨isB_0, rfl, hJ0⟩, fun h => absurd rfl h⟩⟩⟩⟩, fun h => absurd rfl h⟩
  refine w_ch_y b1 (by omega) hc ⟨fun h => absurd h ne01, fun _ => ⟨c, by omega, rfl, ?_⟩⟩
  obtain ⟨c1, c2⟩ := b7 c (by omega)
  by_cases ha : hm 1 c = 0
  rotate_left
  · exact br_f2 (by rw [c1]; exact ha) ⟨isB_0, fun h => absurd rfl h, fun _ => ⟨isB_0, w_open_y z b5 (by omega) hr ⟨fun h => absurd h ne01, fun _ => w_mch_y b2 (by omega) hc ⟨fun h => absurd h ne01, fun _ => ⟨c, by omega, rfl, br_f2 ha ⟨isB_0, rfl, hJ0⟩⟩⟩⟩⟩⟩
  refine br_t2 (by rw [c1]; exact ha) ⟨isB_1, fun _ => ⟨r, by omega, rfl, ?_⟩, fun h => absurd h ne01⟩
  obtain ⟨r1, r2, r3, r4, r5, r6, r7, r8, r9, r10, r11⟩ := b8 r (by omega)
  refine w_maa r1 r4 r3 r6 (fun hok hn => ?_) (fun hno => ?_)
  · refine ⟨fun _ => ⟨r, by omega, rfl, w_add r4 hn isB_1 ⟨isB_1, ?_⟩⟩, fun h => absurd h ne01⟩
    refine w_open_y z b5 (by omega) hr ⟨fun h => absurd h ne01, fun _ => w_mch_y b2 (by omega) hc ⟨fun h => absurd h ne01, fun _ => ⟨c, by omega, rfl, br_t2 ha ?_⟩⟩⟩
    refine w_exp (by omega) r2 r3 (fun _ => ⟨fun h => absurd h ne01, fun _ => ⟨r, by omega, rfl, c_lt (b := 4) r5 rfl (by omega) (by omega) (fun _ => ?_) (fun h => absurd hn (by omega))⟩⟩) (fun h => absurd hok h)
    refine ⟨r, by omega, rfl, 4 * r + na r, by omega, by rw [r5, ix4r], ?_⟩
    rintro h11 rfl
    exact w_act (by omega) r5 hn ⟨isB_1, rfl, J_add hB hM s1 z (by omega) hn hok (Or.inl ⟨rfl, c, hc, rfl, rfl⟩)⟩
  · refine ⟨fun h => absurd rfl h, fun _ => ⟨isB_0, ?_⟩⟩
    refine w_open_y z b5 (by omega) hr ⟨fun h => absurd h ne01, fun _ => w_mch_y b2 (by omega) hc ⟨fun h => absurd h ne01, fun _ => ⟨c, by omega, rfl, br_t2 ha ?_⟩⟩⟩
    exact w_exp (by omega) r2 r3 (fun hok => ⟨fun h => absurd h ne01, fun _ => ⟨r, by omega, rfl, c_lt (b := 4) r5 rfl (by omega) (by omega) (fun h => absurd ⟨hok, h⟩ hno) (fun _ => ⟨isB_0, rfl, hJ0⟩)⟩⟩) (fun _ => ⟨fun _ => ⟨isB_0, rfl, hJ0⟩, fun h => absurd rfl h⟩)
