/-! a message leaves its channel: removePending, withdraw, consume -/
def ne_ (m x : Nat) : Bool := decide (x ≠ m)
theorem w_rm {h : RS} {c m : Nat} {L : List Nat} {Q : RS → Prop} (hc : c < 8) (e2 : h (13 + c) 2 = nI L.length) (hl : L.length ≤ 6) (e : ∀ k, k < L.length → h (21 + c) k = nI (L.getD k 0)) (hL : ∀ k, k < L.length → L.getD k 0 < 2 ^ 31) (hm : m < 2 ^ 31) (f : ∀ h' : RS, (∀ i, i ≠ 21 + c → i ≠ 13 + c → h' i = h i) → (∀ k, k ≠ 2 → h' (13 + c) k = h (13 + c) k) → h' (13 + c) 2 = nI (L.filter (ne_ m)).length → (∀ k, k < (L.filter (ne_ m)).length → h' (21 + c) k = nI ((L.filter (ne_ m)).getD k 0)) → Q h') : wp_Ch_removePending h c (nI m) Q := by
  have key : ∀ n i (h1 : RS), L.length - i < n → i ≤ L.length → (∀ j, j ≠ 21 + c → h1 j = h j) → (∀ t, t < ((L.take i).filter (ne_ m)).length → h1 (21 + c) t = nI (((L.take i).filter (ne_ m)).getD t 0)) → (∀ t, i ≤ t → t < L.length → h1 (21 + c) t = nI (L.getD t 0)) → wp_Ch_removePending_4 Q n h1 c (nI m) (nI ((L.take i).filter (ne_ m)).length) (nI i) := by
    intro n
    induction n with
    | zero => intro i h1 q; omega
    | succ n ih =>
      intro i h1 hn hi hs hA hB
      show bp_Ch_removePending_4 (wp_Ch_removePending_4 Q n) Q h1 c (nI m) _ (nI i)
      unfold bp_Ch_removePending_4
      have hj : ((L.take i).filter (ne_ m)).length ≤ i := Nat.le_trans (List.length_filter_le _ _) (by rw [List.length_take]; omega)
      refine c_le (by rw [hs (13 + c) (by omega)]; exact e2) rfl (by omega) (by omega) (fun hle => ?_) (fun hlt => ?_)
      · have hi2 : i = L.length := by omega
        subst hi2
        rw [List.take_length] at hA ⊢
        rintro h2 rfl
        refine f _ (fun j h3 h4 => ?_) (fun k hk => ?_) up2_s (fun k hk => ?_)
        · rw [up2_f h4]; exact hs j h3
        · rw [up2_o (by omega), hs (13 + c) (by omega)]
        · rw [up2_o (by omega)]; exact hA k hk
      have hx := hB i (Nat.le_refl _) hlt
      have ht : L.take (i + 1) = L.take i ++ [L.getD i 0] := by
        rw [List.take_succ, List.getD_eq_getElem?_getD, List.getElem?_eq_getElem hlt]
        rfl
      refine ⟨i, by omega, rfl, fun h2 => ?_, fun h2 => ⟨i, by omega, rfl, ((L.take i).filter (ne_ m)).length, by omega, rfl, ?_⟩⟩
      · have em : L.getD i 0 = m := nI_inj (hL i hlt) hm (hx.symm.trans h2)
        have hf : (L.take (i + 1)).filter (ne_ m) = (L.take i).filter (ne_ m) := by
          rw [ht, List.filter_append, em]
          simp [ne_]
        rw [nI_1, ← hf]
        refine ih (i + 1) h1 (by omega) (by omega) hs ?_ (fun t h3 h4 => hB t (by omega) h4)
        rw [hf]
        exact hA
      · rintro h5 rfl
        have em : L.getD i 0 ≠ m := fun q => h2 (by rw [hx, q])
        have hf : (L.take (i + 1)).filter (ne_ m) = (L.take i).filter (ne_ m) ++ [L.getD i 0] := by
          have hb : ne_ m (L.getD i 0) = true := decide_eq_true em
          rw [ht, List.filter_append, List.filter_cons, hb]
          simp
        have hf2 : ((L.take (i + 1)).filter (ne_ m)).length = ((L.take i).filter (ne_ m)).length + 1 := by rw [hf, List.length_append]; rfl
        rw [nI_1, nI_1, ← hf2]
        refine ih (i + 1) _ (by omega) (by omega) (fun j h3 => ?_) (fun t h3 => ?_) (fun t h3 h4 => ?_)
        · rw [up2_f h3]; exact hs j h3
        · rw [hf2] at h3
          rw [hf, getD_app]
          by_cases et : t = ((L.take i).filter (ne_ m)).length
          · rw [if_pos et, et, up2_s]; exact hx
          · rw [if_neg et, up2_o (by omega)]; exact hA t (by omega)
        · rw [up2_o (by omega)]; exact hB t (by omega) h4
  refine ⟨L.length + 1, ?_⟩
  have h0 := key (L.length + 1) 0 h (by omega) (by omega) (fun _ _ => rfl) (fun t ht => absurd ht (by simp)) (fun t _ ht => e t ht)
  exact h0
def tkM (g : RS) (m : Nat) (s y : Int32) : RS := up2 (up2 g 16 m s) 17 m y
theorem tkM_16 {g : RS} {m : Nat} {s y : Int32} (x : Nat) : tkM g m s y 16 x = if x = m then s else g 16 x := by
  unfold tkM
  rw [up2_o (by omega), up2_at]
  simp
theorem tkM_f {g : RS} {m i : Nat} {s y : Int32} (h1 : i ≠ 16) (h2 : i ≠ 17) : tkM g m s y i = g i := by
  unfold tkM
  rw [up2_f h2, up2_f h1]
theorem pend_tk {g : RS} {m n c : Nat} {s y : Int32} (hs : ¬ s = 1) : pend (tkM g m s y) n c = (pend g n c).filter (ne_ m) := by
  unfold pend
  rw [List.filter_filter, tkM_f (by omega) (by omega)]
  apply List.filter_congr
  intro x _
  rw [tkM_16]
  by_cases e : x = m
  · rw [if_pos e]; simp [hs, ne_, e]
  · rw [if_neg e]; simp [ne_, e]
theorem pend_tk_o {g : RS} {m n c c' : Nat} {s y : Int32} (hs : ¬ s = 1) (h14 : g 14 m = nI c) (hc : c < 8) (hc' : c' < 8) (hne : c' ≠ c) : pend (tkM g m s y) n c' = pend g n c' := by
  rw [pend_tk hs, List.filter_eq_self]
  intro x hx
  refine decide_eq_true (fun q => ?_)
  subst q
  exact hne (nI_inj (by omega) (by omega) ((mem_pend.mp hx).2.1.symm.trans h14))
theorem consd_tk {g : RS} {m n : Nat} {s y : Int32} (h16 : g 16 m = 1) : consd g n ≤ consd (tkM g m s y) n := by
  induction n with
  | zero => exact Nat.le_refl _
  | succ n ih =>
    rw [consd_succ, consd_succ, tkM_16]
    by_cases e : n = m
    · subst e
      rw [if_pos rfl, h16, if_neg (by decide)]
      exact Nat.le_trans ih (Nat.le_add_right _ _)
    · rw [if_neg e]
      omega
theorem consd_tk2 {g : RS} {m n : Nat} {y : Int32} (h16 : g 16 m = 1) (hm : m < n) : consd (tkM g m 2 y) n = consd g n + 1 := by
  induction n with
  | zero => omega
  | succ n ih =>
    rw [consd_succ, consd_succ, tkM_16]
    by_cases e : n = m
    · subst e
      rw [if_pos rfl, h16, if_pos rfl, if_neg (show ¬ (1 : Int32) = 2 by decide), Nat.add_zero]
      congr 1
      exact consd_congr (fun x hx => by rw [tkM_16, if_neg (by omega)])
    · rw [if_neg e, ih (by omega)]
      omega
theorem JM_tk {hv g h' : RS} {nc nr nm nf m c : Nat} {s y : Int32} (h : JM hv g nc nr nm nf) (hc : c < 8) (hm : m < nm) (h14 : g 14 m = nI c) (h16 : g 16 m = 1) (hs : ¬ s = 1) (q1 : ∀ i, i ≠ 21 + c → i ≠ 13 + c → h' i = up2 (up2 hv 8 m s) 9 m y i) (q2 : ∀ k, k ≠ 2 → h' (13 + c) k = up2 (up2 hv 8 m s) 9 m y (13 + c) k) (q3 : h' (13 + c) 2 = nI ((pend g nm c).filter (ne_ m)).length) (q4 : ∀ k, k < ((pend g nm c).filter (ne_ m)).length → h' (21 + c) k = nI (((pend g nm c).filter (ne_ m)).getD k 0)) : JM h' (tkM g m s y) nc nr nm nf := by
  obtain ⟨h1, h2, h3, h4, h5, h6, h7, h8, h9, h10⟩ := h
  refine ⟨?_, ?_, h3, ?_, ?_, Nat.le_trans h6 (consd_tk h16), fun x => ?_, fun x hx => ?_, fun k hk => ?_, fun c' hc' => ?_⟩
  · rw [q1 3 (by omega) (by omega), up2_o (by omega), up2_o (by omega)]; exact h1
  · rw [tkM_f (by omega) (by omega)]; exact h2
  · rw [q1 0 (by omega) (by omega), up2_o (by omega), up2_o (by omega)]; exact h4
  · rw [tkM_f (by omega) (by omega)]; exact h5
  · obtain ⟨a1, a2, a3, a4, a5, a6⟩ := h7 x
    refine ⟨?_, ?_, ?_, ?_, ?_, ?_⟩
    · rw [q1 6 (by omega) (by omega), up2_o (by omega), up2_o (by omega), tkM_f (by omega) (by omega)]; exact a1
    · rw [q1 7 (by omega) (by omega), up2_o (by omega), up2_o (by omega), tkM_f (by omega) (by omega)]; exact a2
    · rw [q1 8 (by omega) (by omega), up2_o (by omega), up2_at, tkM_16, a3]
      by_cases e : x = m
      · rw [if_pos ⟨rfl, e⟩, if_pos e]
      · rw [if_neg (fun q => e q.2), if_neg e]
    · rw [q1 9 (by omega) (by omega)]
      unfold tkM
      by_cases e : x = m
      · rw [up2_e rfl e, up2_e rfl e]
      · rw [up2_o (by omega), up2_o (by omega), up2_o (by omega), up2_o (by omega)]; exact a4
    · rw [q1 10 (by omega) (by omega), up2_o (by omega), up2_o (by omega), tkM_f (by omega) (by omega)]; exact a5
    · rw [q1 5 (by omega) (by omega), up2_o (by omega), up2_o (by omega), tkM_f (by omega) (by omega)]; exact a6
  · rw [tkM_f (by omega) (by omega)]; exact h8 x hx
  · rw [tkM_f (by omega) (by omega)]; exact h9 k hk
  · obtain ⟨p1, p2, p3⟩ := h10 c' hc'
    unfold JPd
    by_cases e : c' = c
    · subst e
      rw [pend_tk hs]
      exact ⟨Nat.le_trans (List.length_filter_le _ _) p1, q3, q4⟩
    · rw [pend_tk_o hs h14 hc hc' e, q1 (13 + c') (by omega) (by omega), q1 (21 + c') (by omega) (by omega), up2_o (by omega), up2_o (by omega), up2_f (by omega), up2_f (by omega)]
      exact ⟨p1, p2, p3⟩
theorem JB_tk {hv g h' : RS} {nc nr m c : Nat} {np na : Nat → Nat} {s y : Int32} (h : JB hv g nc nr np na) (hc : c < 8) (q1 : ∀ i, i ≠ 21 + c → i ≠ 13 + c → h' i = up2 (up2 hv 8 m s) 9 m y i) (q2 : ∀ k, k ≠ 2 → h' (13 + c) k = up2 (up2 hv 8 m s) 9 m y (13 + c) k) : JB h' (tkM g m s y) nc nr np na := by
  refine JB_keep h ?_ ?_ (fun i hi => ?_) (fun i hi => ?_) ?_ ?_ (fun i h1 h2 => tkM_f (by omega) (by omega))
  · rw [q1 0 (by omega) (by omega), up2_o (by omega), up2_o (by omega)]
  · rw [q1 0 (by omega) (by omega), up2_o (by omega), up2_o (by omega)]
  · by_cases e : i = c
    · subst e
      rw [q2 0 (by omega), up2_o (by omega), up2_o (by omega)]
    · rw [q1 (13 + i) (by omega) (by omega), up2_o (by omega), up2_o (by omega)]
  · rw [q1 i (by omega) (by omega), up2_f (by omega), up2_f (by omega)]
  · rw [tkM_f (by omega) (by omega)]
  · rw [tkM_f (by omega) (by omega)]
/-- removePending on a state whose message m was just marked -/
theorem w_rmJ {hv g : RS} {nc nr nm nf m c : Nat} {s y : Int32} {Q : RS → Prop} (hJ : JM hv g nc nr nm nf) (hc : c < 8) (f : ∀ h' : RS, (∀ i, i ≠ 21 + c → i ≠ 13 + c → h' i = up2 (up2 hv 8 m s) 9 m y i) → (∀ k, k ≠ 2 → h' (13 + c) k = up2 (up2 hv 8 m s) 9 m y (13 + c) k) → h' (13 + c) 2 = nI ((pend g nm c).filter (ne_ m)).length → (∀ k, k < ((pend g nm c).filter (ne_ m)).length → h' (21 + c) k = nI (((pend g nm c).filter (ne_ m)).getD k 0)) → Q h') (hm : m < nm) : wp_Ch_removePending (up2 (up2 hv 8 m s) 9 m y) c (nI m) Q := by
  obtain ⟨p1, p2, p3⟩ := hJ.2.2.2.2.2.2.2.2.2 c hc
  have hnm := hJ.2.2.1
  refine w_rm (L := pend g nm c) hc ?_ p1 (fun k hk => ?_) (fun k hk => ?_) (by omega) f
  · rw [up2_o (by omega), up2_o (by omega)]; exact p2
  · rw [up2_o (by omega), up2_o (by omega)]; exact p3 k hk
  · have := (pend_lt hk).1
    omega
theorem st_withdraw {hv hm : RS} (hJ : J hv hm) (v : Int32) : wp_V_withdraw hv v (fun r h1 => wp_M_withdraw hm v (fun r2 h2 => r = r2 ∧ J h1 h2)) := by
  have hJ0 := hJ
  obtain ⟨nc, nr, nm, nf, np, na, hB, hM, s1, hS⟩ := hJ
  obtain ⟨b1, b2, b3, b4, b5, b6, b7, b8⟩ := id hB
  obtain ⟨m1, m2, m3, m4, m5, m6, m7, m8, m9, m10⟩ := id hM
  unfold wp_V_withdraw bp_V_withdraw_0 wp_M_withdraw bp_M_withdraw_0
  rcases ixc v (n := nm) (by omega) with hno | ⟨m, hm1, rfl⟩
  · refine br_no m1 (by omega) hno ⟨isB_0, fun _ => ⟨isB_0, ?_⟩, fun h => absurd rfl h⟩
    exact br_no m2 (by omega) hno ⟨isB_0, fun _ => ⟨isB_0, rfl, hJ0⟩, fun h => absurd rfl h⟩
  obtain ⟨c, hc, h14⟩ := m8 m hm1
  obtain ⟨a1, a2, a3, a4, a5, a6⟩ := m7 m
  obtain ⟨c1, c2⟩ := b7 c (by omega)
  refine br_yes m1 (by omega) hm1 rfl ⟨isB_1, fun h => absurd h ne01, fun _ => ⟨m, by omega, rfl, ?_⟩⟩
  have hMM : ∀ (P : Prop) , ((hm 1 c = 0 → isB 0 ∧ P) → True) := fun _ _ => trivial
  by_cases h16 : hm 16 m = 1
  rotate_left
  · refine br_f (by rw [a3]; exact h16) ⟨isB_0, ?_⟩
    refine br_yes m2 (by omega) hm1 rfl ⟨isB_1, fun h => absurd h ne01, fun _ => ⟨m, by omega, rfl, c, by omega, h14, fun _ => ⟨isB_0, rfl, hJ0⟩, fun _ => ⟨m, by omega, rfl, br_f h16 ⟨isB_0, rfl, hJ0⟩⟩⟩⟩
  refine br_t (by rw [a3]; exact h16) ⟨m, by omega, rfl, c, by omega, by rw [a1]; exact h14, ?_⟩
  by_cases ha : hm 1 c = 0
  · refine br_t2 (by rw [c1]; exact ha) ⟨isB_0, ?_⟩
    exact br_yes m2 (by omega) hm1 rfl ⟨isB_1, fun h => absurd h ne01, fun _ => ⟨m, by omega, rfl, c, by omega, h14, br_t ha ⟨isB_0, rfl, hJ0⟩⟩⟩
  refine br_f2 (by rw [c1]; exact ha) ⟨m, by omega, rfl, ?_⟩
  rintro h7 rfl
  have e9 : up2 hv 8 m 3 = up2 (up2 hv 8 m 3) 9 m (hm 17 m) := by
    rw [up2_id (h := up2 hv 8 m 3)]
    rw [up2_o (by omega)]; exact a4
  have e17 : up2 hm 16 m 3 = tkM hm m 3 (hm 17 m) := by
    unfold tkM
    rw [up2_id (h := up2 hm 16 m 3)]
    rw [up2_o (by omega)]
  rw [e9]
  refine w_rmJ hM (by omega) (fun h' q1 q2 q3 q4 => ⟨isB_1, ?_⟩) hm1
  refine br_yes m2 (by omega) hm1 rfl ⟨isB_1, fun h => absurd h ne01, fun _ => ⟨m, by omega, rfl, c, by omega, h14, br_f ha ⟨m, by omega, rfl, br_t h16 ⟨m, by omega, rfl, ?_⟩⟩⟩⟩
  rintro g7 rfl
  refine ⟨isB_1, rfl, ?_⟩
  rw [e17]
  refine ⟨nc, nr, nm, nf, np, na, JB_tk hB (by omega) q1 q2, JM_tk hM (by omega) hm1 h14 h16 (by decide) q1 q2 q3 q4, ?_, ?_⟩
  · rw [q1 0 (by omega) (by omega), up2_o (by omega), up2_o (by omega), tkM_f (by omega) (by omega)]; exact s1
  · rw [tkM_f (by omega) (by omega)]; exact hS
