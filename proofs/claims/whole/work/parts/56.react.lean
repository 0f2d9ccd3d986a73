/-! react -/
def MR (nc nr : Nat) (np na : Nat → Nat) : Nat → RS → Nat → Nat → Nat → Nat → RS → Prop
  | 0 => fun g _ _ c res g' => res = c ∧ g' = g
  | n + 1 => fun g nm nf c res g' => (∃ hv, JB hv g nc nr np na ∧ JM hv g nc nr nm nf) ∧ (((∀ s, s < nr → ¬ EN g nm nc np na ((from_ g nf + s) % nr)) ∧ res = c ∧ g' = g) ∨ ∃ (s : Nat) (d : Nat → Nat), s < nr ∧ (∀ s', s' < s → ¬ EN g nm nc np na ((from_ g nf + s') % nr)) ∧ EN g nm nc np na ((from_ g nf + s) % nr) ∧ FST g nm ((from_ g nf + s) % nr) (np ((from_ g nf + s) % nr)) d ∧ nf < 300 ∧ MR nc nr np na n (FIRE g nm nf np na ((from_ g nf + s) % nr) d) (nm + SC g ((from_ g nf + s) % nr) (na ((from_ g nf + s) % nr))) (nf + 1) (c + 1) res g')
theorem JB_sV {hv hv' g : RS} {nc nr : Nat} {np na : Nat → Nat} (h : JB hv g nc nr np na) (e : scrV hv hv') : JB hv' g nc nr np na := by
  refine JB_keep h ?_ ?_ (fun c hc => ?_) (fun i hi => e i (by omega) (by omega)) rfl rfl (fun _ _ _ => rfl)
  · rw [e 0 (by omega) (by omega)]
  · rw [e 0 (by omega) (by omega)]
  · rw [e _ (by omega) (by omega)]
theorem JM_sV {hv hv' g : RS} {nc nr nm nf : Nat} (h : JM hv g nc nr nm nf) (e : scrV hv hv') : JM hv' g nc nr nm nf := by
  refine JM_keep h ?_ ?_ (fun i h1 h2 => e i (by omega) (by omega)) (fun c hc => ?_) (fun i h1 h2 => e i (by omega) (by omega)) rfl rfl (fun _ _ _ => rfl)
  · rw [e 3 (by omega) (by omega)]
  · rw [e 0 (by omega) (by omega)]
  · rw [e _ (by omega) (by omega)]
theorem acM_0 {g g0 : RS} {nm r x : Nat} {L : Nat → Nat} {V : Nat → Int32} (hx : x ≠ 16) : ∀ k, acM g nm r L V g0 k 0 x = g0 0 x := by
  intro k
  induction k with
  | zero => rfl
  | succ k ih =>
    rw [acM_s]
    by_cases h : g 9 (4 * r + k) < 0
    · rw [if_pos h, up2_o (by omega), ih]
    · rw [if_neg h, mkM_0 hx, ih]
theorem FIRE_15 {g : RS} {nm nf r : Nat} {np na : Nat → Nat} {d : Nat → Nat} : FIRE g nm nf np na r d 0 15 = g 0 15 := by
  unfold FIRE
  rw [up2_o (by omega), up2_o (by omega), acM_0 (by omega), cM_f (by omega) (by omega)]
theorem w_reV {nc nr N : Nat} {np na : Nat → Nat} {Q : Int32 → RS → Prop} (hN : N ≤ 5) (hnr : 1 ≤ nr) (hnp : ∀ r, r < nr → 1 ≤ np r) : ∀ (rem c nm nf fuel : Nat) (h g : RS), c + rem = N → rem < fuel → JB h g nc nr np na → JM h g nc nr nm nf → h 0 4 = g 0 15 → g 0 15 = 1 → (∀ (h' g' : RS) (res : Nat), MR nc nr np na rem g nm nf c res g' → J h' g' → Q (nI res) h') → wp_V_react_19 Q fuel h (nI N) (nI c) := by
  intro rem
  induction rem with
  | zero =>
    intro c nm nf fuel h g hc hfu hB hM s1 z f
    obtain ⟨fu, rfl⟩ : ∃ fu, fuel = fu + 1 := ⟨fuel - 1, by omega⟩
    show bp_V_react_19 (wp_V_react_19 Q fu) Q h (nI N) (nI c)
    unfold bp_V_react_19
    refine c_le rfl rfl (by omega) (by omega) (fun _ => ?_) (fun q => absurd q (by omega))
    have e : N = c := by omega
    rw [e]
    exact f h g c ⟨rfl, rfl⟩ ⟨nc, nr, nm, nf, np, na, hB, hM, s1, Or.inr ⟨z, hnr, hnp⟩⟩
  | succ rem ih =>
    intro c nm nf fuel h g hc hfu hB hM s1 z f
    obtain ⟨fu, rfl⟩ : ∃ fu, fuel = fu + 1 := ⟨fuel - 1, by omega⟩
    show bp_V_react_19 (wp_V_react_19 Q fu) Q h (nI N) (nI c)
    unfold bp_V_react_19
    refine c_le rfl rfl (by omega) (by omega) (fun q => absurd q (by omega)) (fun _ => ?_)
    have b6 := hB.2.2.2.2.2.1
    refine w_fn hB hM s1 scrV_rf (fun h' s d hs' hlt hno hE hF hrow => ?_) (fun h' hs' hno => ?_)
    · have hmd := Nat.mod_lt (from_ g nf + s) (show 0 < nr by omega)
      refine ⟨fun _ => ?_, fun q => absurd q (nI_m1 (by omega))⟩
      refine w_fiV (JB_sV hB hs') (JM_sV hM hs') hmd (hnp _ hmd) hE.2.1 hF.1 hrow (fun h3 hB3 hM3 e04 hnf => ?_)
      rw [nI_1]
      refine ih (c + 1) _ _ fu h3 _ (by omega) (by omega) hB3 hM3 ?_ ?_ (fun h4 g4 res hMR hJ4 => f h4 g4 res ⟨⟨h, hB, hM⟩, Or.inr ⟨s, d, hlt, hno, hE, hF, hnf, hMR⟩⟩ hJ4)
      · rw [FIRE_15, e04, hs' 0 (by omega) (by omega)]; exact s1
      · rw [FIRE_15]; exact z
    · refine ⟨fun q => absurd rfl q, fun _ => ?_⟩
      exact f h' g c ⟨⟨h, hB, hM⟩, Or.inl ⟨hno, rfl, rfl⟩⟩ ⟨nc, nr, nm, nf, np, na, JB_sV hB hs', JM_sV hM hs', by rw [hs' 0 (by omega) (by omega)]; exact s1, Or.inr ⟨z, hnr, hnp⟩⟩
theorem w_reM {nc nr N : Nat} {np na : Nat → Nat} {Q : Int32 → RS → Prop} (hN : N ≤ 5) (hnp : ∀ r, r < nr → 1 ≤ np r) : ∀ (rem c nm nf fuel : Nat) (h g g' : RS) (res : Nat), c + rem = N → rem < fuel → scrM g h → MR nc nr np na rem g nm nf c res g' → (∀ h', scrM g' h' → Q (nI res) h') → wp_M_react_20 Q fuel h (nI N) (nI c) := by
  intro rem
  induction rem with
  | zero =>
    intro c nm nf fuel h g g' res hc hfu hs hMR f
    obtain ⟨fu, rfl⟩ : ∃ fu, fuel = fu + 1 := ⟨fuel - 1, by omega⟩
    show bp_M_react_20 (wp_M_react_20 Q fu) Q h (nI N) (nI c)
    unfold bp_M_react_20
    refine c_le rfl rfl (by omega) (by omega) (fun _ => ?_) (fun q => absurd q (by omega))
    obtain ⟨h1, h2⟩ := hMR
    have e : N = res := by omega
    rw [e]
    exact f h (by rw [h2]; exact hs)
  | succ rem ih =>
    intro c nm nf fuel h g g' res hc hfu hs hMR f
    obtain ⟨fu, rfl⟩ : ∃ fu, fuel = fu + 1 := ⟨fuel - 1, by omega⟩
    show bp_M_react_20 (wp_M_react_20 Q fu) Q h (nI N) (nI c)
    unfold bp_M_react_20
    refine c_le rfl rfl (by omega) (by omega) (fun q => absurd q (by omega)) (fun _ => ?_)
    obtain ⟨⟨hv, hB, hM⟩, hcase⟩ := hMR
    have b6 := hB.2.2.2.2.2.1
    rcases hcase with ⟨hno, e1, e2⟩ | ⟨s, d, hlt, hno, hE, hF, hnf, hMR2⟩
    · refine w_nx hB hM hs (fun h2 t hG hlt2 hno2 hE2 => absurd hE2 (hno t hlt2)) (fun h2 hG hno2 => ⟨fun q => absurd q (by decide), fun _ => ?_⟩)
      rw [← e1]
      exact f h2 (by rw [e2]; exact hG.1)
    · refine w_nx hB hM hs (fun h2 t hG hlt2 hno2 hE2 => ?_) (fun h2 hG hno2 => absurd hE (hno2 s hlt))
      have es := nx_uniq (p := fun s => EN g nm nc np na ((from_ g nf + s) % nr)) hno hE hno2 hE2
      rw [← es]
      have hmd := Nat.mod_lt (from_ g nf + s) (show 0 < nr by omega)
      refine ⟨fun _ => ?_, fun q => absurd (nI_pos' (by omega)) q⟩
      refine w_fiM hB hM hmd (hnp _ hmd) hE.2.1 hF hG hnf (fun h3 hs3 => ?_)
      rw [nI_1]
      exact ih (c + 1) _ _ fu h3 _ g' res (by omega) (by omega) hs3 hMR2 f
theorem st_react {hv hm : RS} (hJ : J hv hm) (v : Int32) : wp_V_react hv v (fun r h1 => wp_M_react hm v (fun r2 h2 => r = r2 ∧ J h1 h2)) := by
  have hJ0 := hJ
  obtain ⟨nc, nr, nm, nf, np, na, hB, hM, s1, hS⟩ := hJ
  unfold wp_V_react bp_V_react_0 wp_M_react bp_M_react_0
  rcases hS with ⟨z, -⟩ | ⟨z, hnr, hnp⟩
  · exact br_t (by rw [s1]; exact z) (br_t z ⟨rfl, hJ0⟩)
  have hz : ¬ hm 0 15 = 0 := by rw [z]; exact ne01
  refine br_f (by rw [s1]; exact hz) ?_
  rcases ixc v (n := 5 + 1) (by omega) with hno | ⟨N, hN, rfl⟩
  · refine w_wi_n (n := 5) rfl (by omega) hno ⟨fun q => absurd rfl q, fun _ => br_f hz ⟨fun _ => ⟨rfl, hJ0⟩, fun h0 => ⟨fun h1 => ?_, fun _ => ⟨rfl, hJ0⟩⟩⟩⟩
    rcases in_no (n := 5) (by omega) hno with h2 | h2
    · exact absurd h2 h0
    · exact absurd h1 h2.2.2
  obtain ⟨i1, i2, i3⟩ := in_yes (n := 5) (by omega) hN
  refine w_wi_y (n := 5) rfl (by omega) hN ⟨fun _ => ⟨N + 1, ?_⟩, fun q => absurd q ne01⟩
  refine w_reV (by omega) hnr hnp N 0 nm nf (N + 1) hv hm (by omega) (by omega) hB hM s1 z (fun h' g' res hMR hJ' => ?_)
  refine br_f hz ⟨fun q => absurd q i1, fun _ => ⟨fun _ => ⟨N + 1, ?_⟩, fun q => absurd i3 q⟩⟩
  exact w_reM (by omega) hnp N 0 nm nf (N + 1) hm hm g' res (by omega) (by omega) (fun _ _ => rfl) hMR (fun h2 hs2 => ⟨rfl, J_scr hJ' scrV_rf hs2⟩)
theorem steps_J : Steps J := fun h1 h2 hJ => ⟨st_channel hJ, st_reaction hJ, st_part hJ, st_guard hJ, st_emit hJ, st_reply hJ, st_seal hJ, st_put hJ, st_call hJ, st_withdraw hJ, st_react hJ, st_enabled hJ, st_next hJ, st_taken hJ, st_pendingAt hJ, st_value hJ, st_state hJ, st_consumer hJ, st_answer hJ, st_fired hJ⟩
