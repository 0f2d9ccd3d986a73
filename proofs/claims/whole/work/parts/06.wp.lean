def bp_V_channel_0 (Q : Int32 → RS → Prop) (h : RS) (x1 : Int32) : Prop :=
  (¬ (h 0 4) = 0 → Q (-1 : Int32) h) ∧
  ((h 0 4) = 0 → ((h 0 1) < (8 : Int32) → ∃ k1 : Nat, k1 < 8 ∧ (h 0 1) = nI k1 ∧ isB x1 ∧ ∀ h2 : RS, h2 = up2 h (13 + k1) 0 x1 → ∀ h3 : RS, h3 = up2 h2 0 1 ((h2 0 1) + (1 : Int32)) → Q ((h3 0 1) - (1 : Int32)) h3) ∧
  (¬ (h 0 1) < (8 : Int32) → Q (-1 : Int32) h))
def wp_V_channel (h : RS) (x1 : Int32) (Q : Int32 → RS → Prop) : Prop := bp_V_channel_0 Q h x1
def bp_V_reaction_0 (Q : Int32 → RS → Prop) (h : RS) : Prop :=
  (¬ (h 0 4) = 0 → Q (-1 : Int32) h) ∧
  ((h 0 4) = 0 → ((h 0 3) < (8 : Int32) → ∀ h1 : RS, h1 = up2 h 0 3 ((h 0 3) + (1 : Int32)) → Q ((h1 0 3) - (1 : Int32)) h1) ∧
  (¬ (h 0 3) < (8 : Int32) → Q (-1 : Int32) h))
def wp_V_reaction (h : RS) (Q : Int32 → RS → Prop) : Prop := bp_V_reaction_0 Q h
def bp_V_mayBuild_0 (Q : Int32 → RS → Prop) (h : RS) (x1 : Int32) : Prop :=
  (¬ (h 0 4) = 0 → isB (0 : Int32) ∧ Q (0 : Int32) h) ∧
  ((h 0 4) = 0 → (x1 < 0 → isB (0 : Int32) ∧ Q (0 : Int32) h) ∧
  (¬ x1 < 0 → ((h 0 3) ≤ x1 → isB (0 : Int32) ∧ Q (0 : Int32) h) ∧
  (¬ (h 0 3) ≤ x1 → isB (1 : Int32) ∧ Q (1 : Int32) h)))
def wp_V_mayBuild (h : RS) (x1 : Int32) (Q : Int32 → RS → Prop) : Prop := bp_V_mayBuild_0 Q h x1
def bp_V_isChannel_0 (Q : Int32 → RS → Prop) (h : RS) (x1 : Int32) : Prop :=
  (x1 < 0 → isB (0 : Int32) ∧ Q (0 : Int32) h) ∧
  (¬ x1 < 0 → ((h 0 1) ≤ x1 → isB (0 : Int32) ∧ Q (0 : Int32) h) ∧
  (¬ (h 0 1) ≤ x1 → isB (1 : Int32) ∧ Q (1 : Int32) h))
def wp_V_isChannel (h : RS) (x1 : Int32) (Q : Int32 → RS → Prop) : Prop := bp_V_isChannel_0 Q h x1
def bp_V_isWithin_0 (Q : Int32 → RS → Prop) (h : RS) (x0 : Int32) (x1 : Int32) : Prop :=
  (x0 < 0 → isB (0 : Int32) ∧ Q (0 : Int32) h) ∧
  (¬ x0 < 0 → (x1 < x0 → isB (0 : Int32) ∧ Q (0 : Int32) h) ∧
  (¬ x1 < x0 → isB (1 : Int32) ∧ Q (1 : Int32) h))
def wp_V_isWithin (h : RS) (x0 : Int32) (x1 : Int32) (Q : Int32 → RS → Prop) : Prop := bp_V_isWithin_0 Q h x0 x1
def bp_Re_addPart_0 (Q : Int32 → RS → Prop) (h : RS) (i0 : Nat) (x1 : Int32) (x2 : Int32) (x3 : Int32) : Prop :=
  ∃ k1 : Nat, k1 < 4 ∧ (h (29 + i0) 0) = nI k1 ∧ ∀ h2 : RS, h2 = up2 h (37 + i0) k1 x1 → ∃ k3 : Nat, k3 < 4 ∧ (h (29 + i0) 0) = nI k3 ∧ ∀ h4 : RS, h4 = up2 h2 (45 + i0) k3 x2 → ∃ k5 : Nat, k5 < 4 ∧ (h (29 + i0) 0) = nI k5 ∧ ∀ h6 : RS, h6 = up2 h4 (53 + i0) k5 x3 → ∀ h7 : RS, h7 = up2 h6 (29 + i0) 0 ((h6 (29 + i0) 0) + (1 : Int32)) → Q (h (29 + i0) 0) h7
def wp_Re_addPart (h : RS) (i0 : Nat) (x1 : Int32) (x2 : Int32) (x3 : Int32) (Q : Int32 → RS → Prop) : Prop := bp_Re_addPart_0 Q h i0 x1 x2 x3
def bp_V_part_0 (Q : Int32 → RS → Prop) (h : RS) (x1 : Int32) (x2 : Int32) (x3 : Int32) (x4 : Int32) : Prop :=
  wp_V_mayBuild h x1 (fun r1 h2 => (r1 = 0 → Q (-1 : Int32) h2) ∧
  (¬ r1 = 0 → wp_V_isChannel h2 x2 (fun r3 h4 => (r3 = 0 → Q (-1 : Int32) h4) ∧
  (¬ r3 = 0 → wp_V_isWithin h4 x3 (4 : Int32) (fun r5 h6 => (¬ r5 = 0 → ∃ k7 : Nat, k7 < 8 ∧ x1 = nI k7 ∧ ((h6 (29 + k7) 0) < (4 : Int32) → ∃ k8 : Nat, k8 < 8 ∧ x1 = nI k8 ∧ wp_Re_addPart h6 k8 x2 x3 x4 (fun r9 h10 => Q r9 h10)) ∧
  (¬ (h6 (29 + k7) 0) < (4 : Int32) → Q (-1 : Int32) h6)) ∧
  (r5 = 0 → Q (-1 : Int32) h6))))))
def wp_V_part (h : RS) (x1 : Int32) (x2 : Int32) (x3 : Int32) (x4 : Int32) (Q : Int32 → RS → Prop) : Prop := bp_V_part_0 Q h x1 x2 x3 x4
def bp_V_guard_0 (Q : Int32 → RS → Prop) (h : RS) (x1 : Int32) (x2 : Int32) (x3 : Int32) : Prop :=
  wp_V_mayBuild h x1 (fun r1 h2 => (r1 = 0 → isB (0 : Int32) ∧ Q (0 : Int32) h2) ∧
  (¬ r1 = 0 → wp_V_isWithin h2 x2 (5 : Int32) (fun r3 h4 => (¬ r3 = 0 → ∃ k5 : Nat, k5 < 8 ∧ x1 = nI k5 ∧ ∀ h6 : RS, h6 = up2 h4 (29 + k5) 4 x2 → ∃ k7 : Nat, k7 < 8 ∧ x1 = nI k7 ∧ ∀ h8 : RS, h8 = up2 h6 (29 + k7) 5 x3 → isB (1 : Int32) ∧ Q (1 : Int32) h8) ∧
  (r3 = 0 → isB (0 : Int32) ∧ Q (0 : Int32) h4))))
def wp_V_guard (h : RS) (x1 : Int32) (x2 : Int32) (x3 : Int32) (Q : Int32 → RS → Prop) : Prop := bp_V_guard_0 Q h x1 x2 x3
def bp_V_isChannelOf_0 (Q : Int32 → RS → Prop) (h : RS) (x1 : Int32) (x2 : Int32) : Prop :=
  wp_V_isChannel h x1 (fun r1 h2 => (r1 = 0 → isB (0 : Int32) ∧ Q (0 : Int32) h2) ∧
  (¬ r1 = 0 → ∃ k3 : Nat, k3 < 8 ∧ x1 = nI k3 ∧ (¬ (h2 (13 + k3) 0) = x2 → isB (0 : Int32) ∧ Q (0 : Int32) h2) ∧
  ((h2 (13 + k3) 0) = x2 → isB (1 : Int32) ∧ Q (1 : Int32) h2)))
def wp_V_isChannelOf (h : RS) (x1 : Int32) (x2 : Int32) (Q : Int32 → RS → Prop) : Prop := bp_V_isChannelOf_0 Q h x1 x2
def bp_Re_hasPart_0 (Q : Int32 → RS → Prop) (h : RS) (i0 : Nat) (x1 : Int32) : Prop :=
  (x1 < 0 → isB (0 : Int32) ∧ Q (0 : Int32) h) ∧
  (¬ x1 < 0 → ((h (29 + i0) 0) ≤ x1 → isB (0 : Int32) ∧ Q (0 : Int32) h) ∧
  (¬ (h (29 + i0) 0) ≤ x1 → isB (1 : Int32) ∧ Q (1 : Int32) h))
def wp_Re_hasPart (h : RS) (i0 : Nat) (x1 : Int32) (Q : Int32 → RS → Prop) : Prop := bp_Re_hasPart_0 Q h i0 x1
def bp_Re_mayAddAction_33 (Q : Int32 → RS → Prop) (h : RS) (i0 : Nat) (x2 : Int32) (y0 : Int32) : Prop :=
  (y0 = 0 → isB (1 : Int32) ∧ Q (1 : Int32) h) ∧
  (¬ y0 = 0 → wp_Re_hasPart h i0 x2 (fun r1 h2 => (r1 = 0 → isB (0 : Int32) ∧ Q (0 : Int32) h2) ∧
  (¬ r1 = 0 → isB (1 : Int32) ∧ Q (1 : Int32) h2)))
def bp_Re_mayAddAction_28 (Q : Int32 → RS → Prop) (h : RS) (i0 : Nat) (x2 : Int32) : Prop :=
  bp_Re_mayAddAction_33 Q h i0 x2 (1 : Int32)
def bp_Re_mayAddAction_0 (Q : Int32 → RS → Prop) (h : RS) (i0 : Nat) (x1 : Int32) (x2 : Int32) : Prop :=
  wp_V_isWithin h x1 (4 : Int32) (fun r3 h4 => (r3 = 0 → isB (0 : Int32) ∧ Q (0 : Int32) h4) ∧
  (¬ r3 = 0 → ((h4 (29 + i0) 6) < (4 : Int32) → (x1 = (1 : Int32) → bp_Re_mayAddAction_28 Q h4 i0 x2) ∧
  (¬ x1 = (1 : Int32) → (¬ x1 = (2 : Int32) → bp_Re_mayAddAction_33 Q h4 i0 x2 (0 : Int32)) ∧
  (x1 = (2 : Int32) → bp_Re_mayAddAction_28 Q h4 i0 x2))) ∧
  (¬ (h4 (29 + i0) 6) < (4 : Int32) → isB (0 : Int32) ∧ Q (0 : Int32) h4)))
def wp_Re_mayAddAction (h : RS) (i0 : Nat) (x1 : Int32) (x2 : Int32) (Q : Int32 → RS → Prop) : Prop := bp_Re_mayAddAction_0 Q h i0 x1 x2
def bp_Re_addAction_0 (Q : RS → Prop) (h : RS) (i0 : Nat) (x1 : Int32) (x2 : Int32) (x3 : Int32) (x4 : Int32) (x5 : Int32) : Prop :=
  ∃ k1 : Nat, k1 < 4 ∧ (h (29 + i0) 6) = nI k1 ∧ isB x1 ∧ ∀ h2 : RS, h2 = up2 h (61 + i0) k1 x1 → ∃ k3 : Nat, k3 < 4 ∧ (h (29 + i0) 6) = nI k3 ∧ ∀ h4 : RS, h4 = up2 h2 (69 + i0) k3 x2 → ∃ k5 : Nat, k5 < 4 ∧ (h (29 + i0) 6) = nI k5 ∧ ∀ h6 : RS, h6 = up2 h4 (77 + i0) k5 x3 → ∃ k7 : Nat, k7 < 4 ∧ (h (29 + i0) 6) = nI k7 ∧ ∀ h8 : RS, h8 = up2 h6 (85 + i0) k7 x4 → ∃ k9 : Nat, k9 < 4 ∧ (h (29 + i0) 6) = nI k9 ∧ ∀ h10 : RS, h10 = up2 h8 (93 + i0) k9 x5 → ∀ h11 : RS, h11 = up2 h10 (29 + i0) 6 ((h10 (29 + i0) 6) + (1 : Int32)) → Q h11
def wp_Re_addAction (h : RS) (i0 : Nat) (x1 : Int32) (x2 : Int32) (x3 : Int32) (x4 : Int32) (x5 : Int32) (Q : RS → Prop) : Prop := bp_Re_addAction_0 Q h i0 x1 x2 x3 x4 x5
def bp_V_emit_0 (Q : Int32 → RS → Prop) (h : RS) (x1 : Int32) (x2 : Int32) (x3 : Int32) (x4 : Int32) (x5 : Int32) : Prop :=
  wp_V_mayBuild h x1 (fun r1 h2 => (r1 = 0 → isB (0 : Int32) ∧ Q (0 : Int32) h2) ∧
  (¬ r1 = 0 → wp_V_isChannelOf h2 x2 (0 : Int32) (fun r3 h4 => (¬ r3 = 0 → ∃ k5 : Nat, k5 < 8 ∧ x1 = nI k5 ∧ wp_Re_mayAddAction h4 k5 x3 x4 (fun r6 h7 => (¬ r6 = 0 → ∃ k8 : Nat, k8 < 8 ∧ x1 = nI k8 ∧ wp_Re_addAction h7 k8 (1 : Int32) x2 x3 x4 x5 (fun h9 => isB (1 : Int32) ∧ Q (1 : Int32) h9)) ∧
  (r6 = 0 → isB (0 : Int32) ∧ Q (0 : Int32) h7))) ∧
  (r3 = 0 → isB (0 : Int32) ∧ Q (0 : Int32) h4))))
def wp_V_emit (h : RS) (x1 : Int32) (x2 : Int32) (x3 : Int32) (x4 : Int32) (x5 : Int32) (Q : Int32 → RS → Prop) : Prop := bp_V_emit_0 Q h x1 x2 x3 x4 x5
def bp_Re_hasReplyTo_2 (K2 : RS → Nat → Int32 → Int32 → Prop) (Q : Int32 → RS → Prop) (h : RS) (i0 : Nat) (x1 : Int32) (x2 : Int32) : Prop :=
  ((h (29 + i0) 6) ≤ x2 → isB (0 : Int32) ∧ Q (0 : Int32) h) ∧
  (¬ (h (29 + i0) 6) ≤ x2 → ∃ k1 : Nat, k1 < 4 ∧ x2 = nI k1 ∧ (¬ (h (61 + i0) k1) = 0 → K2 h i0 x1 (x2 + 1)) ∧
  ((h (61 + i0) k1) = 0 → ∃ k2 : Nat, k2 < 4 ∧ x2 = nI k2 ∧ (¬ (h (69 + i0) k2) = x1 → K2 h i0 x1 (x2 + 1)) ∧
  ((h (69 + i0) k2) = x1 → isB (1 : Int32) ∧ Q (1 : Int32) h)))
def wp_Re_hasReplyTo_2 (Q : Int32 → RS → Prop) : Nat → RS → Nat → Int32 → Int32 → Prop
  | 0 => fun _ _ _ _ => False
  | n + 1 => bp_Re_hasReplyTo_2 (wp_Re_hasReplyTo_2 Q n) Q
def bp_Re_hasReplyTo_0 (Q : Int32 → RS → Prop) (h : RS) (i0 : Nat) (x1 : Int32) : Prop :=
  ∃ n3 : Nat, wp_Re_hasReplyTo_2 Q n3 h i0 x1 (0 : Int32)
def wp_Re_hasReplyTo (h : RS) (i0 : Nat) (x1 : Int32) (Q : Int32 → RS → Prop) : Prop := bp_Re_hasReplyTo_0 Q h i0 x1
def bp_V_reply_0 (Q : Int32 → RS → Prop) (h : RS) (x1 : Int32) (x2 : Int32) (x3 : Int32) (x4 : Int32) (x5 : Int32) : Prop :=
  wp_V_mayBuild h x1 (fun r1 h2 => (r1 = 0 → isB (0 : Int32) ∧ Q (0 : Int32) h2) ∧
  (¬ r1 = 0 → ∃ k3 : Nat, k3 < 8 ∧ x1 = nI k3 ∧ wp_Re_hasPart h2 k3 x2 (fun r4 h5 => (¬ r4 = 0 → ∃ k6 : Nat, k6 < 8 ∧ x1 = nI k6 ∧ ∃ k7 : Nat, k7 < 4 ∧ x2 = nI k7 ∧ ∃ k8 : Nat, k8 < 8 ∧ (h5 (37 + k6) k7) = nI k8 ∧ ((h5 (13 + k8) 0) = 0 → isB (0 : Int32) ∧ Q (0 : Int32) h5) ∧
  (¬ (h5 (13 + k8) 0) = 0 → wp_Re_hasReplyTo h5 k6 x2 (fun r9 h10 => (r9 = 0 → wp_Re_mayAddAction h10 k6 x3 x4 (fun r11 h12 => (¬ r11 = 0 → wp_Re_addAction h12 k6 (0 : Int32) x2 x3 x4 x5 (fun h13 => isB (1 : Int32) ∧ Q (1 : Int32) h13)) ∧
  (r11 = 0 → isB (0 : Int32) ∧ Q (0 : Int32) h12))) ∧
  (¬ r9 = 0 → isB (0 : Int32) ∧ Q (0 : Int32) h10)))) ∧
  (r4 = 0 → isB (0 : Int32) ∧ Q (0 : Int32) h5))))
def wp_V_reply (h : RS) (x1 : Int32) (x2 : Int32) (x3 : Int32) (x4 : Int32) (x5 : Int32) (Q : Int32 → RS → Prop) : Prop := bp_V_reply_0 Q h x1 x2 x3 x4 x5
def bp_V_leavesCallUnanswered_2 (K2 : RS → Nat → Int32 → Prop) (Q : Int32 → RS → Prop) (h : RS) (i1 : Nat) (x2 : Int32) : Prop :=
  ((h (29 + i1) 0) ≤ x2 → isB (0 : Int32) ∧ Q (0 : Int32) h) ∧
  (¬ (h (29 + i1) 0) ≤ x2 → ∃ k1 : Nat, k1 < 4 ∧ x2 = nI k1 ∧ ∃ k2 : Nat, k2 < 8 ∧ (h (37 + i1) k1) = nI k2 ∧ ((h (13 + k2) 0) = 0 → K2 h i1 (x2 + 1)) ∧
  (¬ (h (13 + k2) 0) = 0 → wp_Re_hasReplyTo h i1 x2 (fun r3 h4 => (¬ r3 = 0 → K2 h4 i1 (x2 + 1)) ∧
  (r3 = 0 → isB (1 : Int32) ∧ Q (1 : Int32) h4))))
def wp_V_leavesCallUnanswered_2 (Q : Int32 → RS → Prop) : Nat → RS → Nat → Int32 → Prop
  | 0 => fun _ _ _ => False
  | n + 1 => bp_V_leavesCallUnanswered_2 (wp_V_leavesCallUnanswered_2 Q n) Q
def bp_V_leavesCallUnanswered_0 (Q : Int32 → RS → Prop) (h : RS) (i1 : Nat) : Prop :=
  ∃ n5 : Nat, wp_V_leavesCallUnanswered_2 Q n5 h i1 (0 : Int32)
def wp_V_leavesCallUnanswered (h : RS) (i1 : Nat) (Q : Int32 → RS → Prop) : Prop := bp_V_leavesCallUnanswered_0 Q h i1
def bp_V_obstacleToSealing_50 (K50 : RS → Int32 → Prop) (Q : Int32 → RS → Prop) (h : RS) (x1 : Int32) : Prop :=
  ((h 0 3) ≤ x1 → Q (0 : Int32) h) ∧
  (¬ (h 0 3) ≤ x1 → ∃ k1 : Nat, k1 < 8 ∧ x1 = nI k1 ∧ wp_V_leavesCallUnanswered h k1 (fun r2 h3 => (r2 = 0 → K50 h3 (x1 + 1)) ∧
  (¬ r2 = 0 → Q (4 : Int32) h3)))
def wp_V_obstacleToSealing_50 (Q : Int32 → RS → Prop) : Nat → RS → Int32 → Prop
  | 0 => fun _ _ => False
  | n + 1 => bp_V_obstacleToSealing_50 (wp_V_obstacleToSealing_50 Q n) Q
def bp_V_obstacleToSealing_20 (K20 : RS → Int32 → Prop) (Q : Int32 → RS → Prop) (h : RS) (x1 : Int32) : Prop :=
  ((h 0 3) ≤ x1 → ∃ n4 : Nat, wp_V_obstacleToSealing_50 Q n4 h (0 : Int32)) ∧
  (¬ (h 0 3) ≤ x1 → ∃ k5 : Nat, k5 < 8 ∧ x1 = nI k5 ∧ (¬ (h (29 + k5) 0) = 0 → K20 h (x1 + 1)) ∧
  ((h (29 + k5) 0) = 0 → Q (3 : Int32) h))
def wp_V_obstacleToSealing_20 (Q : Int32 → RS → Prop) : Nat → RS → Int32 → Prop
  | 0 => fun _ _ => False
  | n + 1 => bp_V_obstacleToSealing_20 (wp_V_obstacleToSealing_20 Q n) Q
def bp_V_obstacleToSealing_0 (Q : Int32 → RS → Prop) (h : RS) : Prop :=
  ((h 0 4) = 0 → (¬ (h 0 3) = 0 → ∃ n6 : Nat, wp_V_obstacleToSealing_20 Q n6 h (0 : Int32)) ∧
  ((h 0 3) = 0 → Q (2 : Int32) h)) ∧
  (¬ (h 0 4) = 0 → Q (1 : Int32) h)
def wp_V_obstacleToSealing (h : RS) (Q : Int32 → RS → Prop) : Prop := bp_V_obstacleToSealing_0 Q h
def bp_V_seal_0 (Q : Int32 → RS → Prop) (h : RS) : Prop :=
  wp_V_obstacleToSealing h (fun r1 h2 => (¬ r1 = 0 → Q r1 h2) ∧
  (r1 = 0 → isB (1 : Int32) ∧ ∀ h3 : RS, h3 = up2 h2 0 4 (1 : Int32) → Q r1 h3))
def wp_V_seal (h : RS) (Q : Int32 → RS → Prop) : Prop := bp_V_seal_0 Q h
def bp_Ms_add_0 (Q : Int32 → RS → Prop) (h : RS) (x1 : Int32) (x2 : Int32) : Prop :=
  ∃ k1 : Nat, k1 < 300 ∧ (h 3 0) = nI k1 ∧ ∀ h2 : RS, h2 = up2 h 6 k1 x1 → ∃ k3 : Nat, k3 < 300 ∧ (h 3 0) = nI k3 ∧ ∀ h4 : RS, h4 = up2 h2 7 k3 x2 → ∃ k5 : Nat, k5 < 300 ∧ (h 3 0) = nI k5 ∧ ∀ h6 : RS, h6 = up2 h4 8 k5 (1 : Int32) → ∃ k7 : Nat, k7 < 300 ∧ (h 3 0) = nI k7 ∧ ∀ h8 : RS, h8 = up2 h6 9 k7 (-1 : Int32) → ∀ h9 : RS, h9 = up2 h8 3 0 ((h8 3 0) + (1 : Int32)) → Q (h 3 0) h9
def wp_Ms_add (h : RS) (x1 : Int32) (x2 : Int32) (Q : Int32 → RS → Prop) : Prop := bp_Ms_add_0 Q h x1 x2
def bp_Ch_addPending_0 (Q : RS → Prop) (h : RS) (i0 : Nat) (x1 : Int32) : Prop :=
  ∃ k1 : Nat, k1 < 6 ∧ (h (13 + i0) 2) = nI k1 ∧ ∀ h2 : RS, h2 = up2 h (21 + i0) k1 x1 → ∀ h3 : RS, h3 = up2 h2 (13 + i0) 2 ((h2 (13 + i0) 2) + (1 : Int32)) → Q h3
def wp_Ch_addPending (h : RS) (i0 : Nat) (x1 : Int32) (Q : RS → Prop) : Prop := bp_Ch_addPending_0 Q h i0 x1
def bp_V_makeMessage_0 (Q : Int32 → RS → Prop) (h : RS) (x1 : Int32) (x2 : Int32) : Prop :=
  wp_Ms_add h x1 x2 (fun r1 h2 => ∃ k3 : Nat, k3 < 8 ∧ x1 = nI k3 ∧ wp_Ch_addPending h2 k3 r1 (fun h4 => Q r1 h4))
def wp_V_makeMessage (h : RS) (x1 : Int32) (x2 : Int32) (Q : Int32 → RS → Prop) : Prop := bp_V_makeMessage_0 Q h x1 x2
def bp_V_admit_0 (Q : Int32 → RS → Prop) (h : RS) (x1 : Int32) (x2 : Int32) (x3 : Int32) : Prop :=
  ((h 0 4) = 0 → Q (-1 : Int32) h) ∧
  (¬ (h 0 4) = 0 → wp_V_isChannelOf h x1 x3 (fun r1 h2 => (¬ r1 = 0 → ∃ k3 : Nat, k3 < 8 ∧ x1 = nI k3 ∧ ((6 : Int32) ≤ (h2 (13 + k3) 2) → Q (-1 : Int32) h2) ∧
  (¬ (6 : Int32) ≤ (h2 (13 + k3) 2) → ((h2 3 0) < (300 : Int32) → wp_V_makeMessage h2 x1 x2 (fun r4 h5 => Q r4 h5)) ∧
  (¬ (h2 3 0) < (300 : Int32) → Q (-1 : Int32) h2))) ∧
  (r1 = 0 → Q (-1 : Int32) h2)))
def wp_V_admit (h : RS) (x1 : Int32) (x2 : Int32) (x3 : Int32) (Q : Int32 → RS → Prop) : Prop := bp_V_admit_0 Q h x1 x2 x3
def bp_V_put_0 (Q : Int32 → RS → Prop) (h : RS) (x1 : Int32) (x2 : Int32) : Prop :=
  wp_V_admit h x1 x2 (0 : Int32) (fun r1 h2 => Q r1 h2)
def wp_V_put (h : RS) (x1 : Int32) (x2 : Int32) (Q : Int32 → RS → Prop) : Prop := bp_V_put_0 Q h x1 x2
def bp_V_call_0 (Q : Int32 → RS → Prop) (h : RS) (x1 : Int32) (x2 : Int32) : Prop :=
  wp_V_admit h x1 x2 (1 : Int32) (fun r1 h2 => Q r1 h2)
def wp_V_call (h : RS) (x1 : Int32) (x2 : Int32) (Q : Int32 → RS → Prop) : Prop := bp_V_call_0 Q h x1 x2
def bp_Ms_has_0 (Q : Int32 → RS → Prop) (h : RS) (x1 : Int32) : Prop :=
  (x1 < 0 → isB (0 : Int32) ∧ Q (0 : Int32) h) ∧
  (¬ x1 < 0 → ((h 3 0) ≤ x1 → isB (0 : Int32) ∧ Q (0 : Int32) h) ∧
  (¬ (h 3 0) ≤ x1 → isB (1 : Int32) ∧ Q (1 : Int32) h))
def wp_Ms_has (h : RS) (x1 : Int32) (Q : Int32 → RS → Prop) : Prop := bp_Ms_has_0 Q h x1
def bp_Ch_removePending_4 (K4 : RS → Nat → Int32 → Int32 → Int32 → Prop) (Q : RS → Prop) (h : RS) (i0 : Nat) (x1 : Int32) (x2 : Int32) (x3 : Int32) : Prop :=
  ((h (13 + i0) 2) ≤ x3 → ∀ h1 : RS, h1 = up2 h (13 + i0) 2 x2 → Q h1) ∧
  (¬ (h (13 + i0) 2) ≤ x3 → ∃ k2 : Nat, k2 < 6 ∧ x3 = nI k2 ∧ ((h (21 + i0) k2) = x1 → K4 h i0 x1 x2 (x3 + 1)) ∧
  (¬ (h (21 + i0) k2) = x1 → ∃ k3 : Nat, k3 < 6 ∧ x3 = nI k3 ∧ ∃ k4 : Nat, k4 < 6 ∧ x2 = nI k4 ∧ ∀ h5 : RS, h5 = up2 h (21 + i0) k4 (h (21 + i0) k3) → K4 h5 i0 x1 (x2 + 1) (x3 + 1)))
def wp_Ch_removePending_4 (Q : RS → Prop) : Nat → RS → Nat → Int32 → Int32 → Int32 → Prop
  | 0 => fun _ _ _ _ _ => False
  | n + 1 => bp_Ch_removePending_4 (wp_Ch_removePending_4 Q n) Q
def bp_Ch_removePending_0 (Q : RS → Prop) (h : RS) (i0 : Nat) (x1 : Int32) : Prop :=
  ∃ n6 : Nat, wp_Ch_removePending_4 Q n6 h i0 x1 (0 : Int32) (0 : Int32)
def wp_Ch_removePending (h : RS) (i0 : Nat) (x1 : Int32) (Q : RS → Prop) : Prop := bp_Ch_removePending_0 Q h i0 x1
def bp_V_withdraw_0 (Q : Int32 → RS → Prop) (h : RS) (x1 : Int32) : Prop :=
  wp_Ms_has h x1 (fun r1 h2 => (r1 = 0 → isB (0 : Int32) ∧ Q (0 : Int32) h2) ∧
  (¬ r1 = 0 → ∃ k3 : Nat, k3 < 300 ∧ x1 = nI k3 ∧ ((h2 8 k3) = (1 : Int32) → ∃ k4 : Nat, k4 < 300 ∧ x1 = nI k4 ∧ ∃ k5 : Nat, k5 < 8 ∧ (h2 6 k4) = nI k5 ∧ (¬ (h2 (13 + k5) 0) = 0 → ∃ k6 : Nat, k6 < 300 ∧ x1 = nI k6 ∧ ∀ h7 : RS, h7 = up2 h2 8 k6 (3 : Int32) → wp_Ch_removePending h7 k5 x1 (fun h8 => isB (1 : Int32) ∧ Q (1 : Int32) h8)) ∧
  ((h2 (13 + k5) 0) = 0 → isB (0 : Int32) ∧ Q (0 : Int32) h2)) ∧
  (¬ (h2 8 k3) = (1 : Int32) → isB (0 : Int32) ∧ Q (0 : Int32) h2)))
def wp_V_withdraw (h : RS) (x1 : Int32) (Q : Int32 → RS → Prop) : Prop := bp_V_withdraw_0 Q h x1
def bp_Re_sendCount_4 (K4 : RS → Nat → Int32 → Int32 → Prop) (Q : Int32 → RS → Prop) (h : RS) (i0 : Nat) (x1 : Int32) (x2 : Int32) : Prop :=
  ((h (29 + i0) 6) ≤ x2 → Q x1 h) ∧
  (¬ (h (29 + i0) 6) ≤ x2 → ∃ k1 : Nat, k1 < 4 ∧ x2 = nI k1 ∧ ((h (61 + i0) k1) = 0 → K4 h i0 x1 (x2 + 1)) ∧
  (¬ (h (61 + i0) k1) = 0 → K4 h i0 (x1 + 1) (x2 + 1)))
def wp_Re_sendCount_4 (Q : Int32 → RS → Prop) : Nat → RS → Nat → Int32 → Int32 → Prop
  | 0 => fun _ _ _ _ => False
  | n + 1 => bp_Re_sendCount_4 (wp_Re_sendCount_4 Q n) Q
def bp_Re_sendCount_0 (Q : Int32 → RS → Prop) (h : RS) (i0 : Nat) : Prop :=
  ∃ n2 : Nat, wp_Re_sendCount_4 Q n2 h i0 (0 : Int32) (0 : Int32)
def wp_Re_sendCount (h : RS) (i0 : Nat) (Q : Int32 → RS → Prop) : Prop := bp_Re_sendCount_0 Q h i0
def bp_Re_partsOn_4 (K4 : RS → Nat → Int32 → Int32 → Int32 → Prop) (Q : Int32 → RS → Prop) (h : RS) (i0 : Nat) (x1 : Int32) (x2 : Int32) (x3 : Int32) : Prop :=
  ((h (29 + i0) 0) ≤ x3 → Q x2 h) ∧
  (¬ (h (29 + i0) 0) ≤ x3 → ∃ k1 : Nat, k1 < 4 ∧ x3 = nI k1 ∧ (¬ (h (37 + i0) k1) = x1 → K4 h i0 x1 x2 (x3 + 1)) ∧
  ((h (37 + i0) k1) = x1 → K4 h i0 x1 (x2 + 1) (x3 + 1)))
def wp_Re_partsOn_4 (Q : Int32 → RS → Prop) : Nat → RS → Nat → Int32 → Int32 → Int32 → Prop
  | 0 => fun _ _ _ _ _ => False
  | n + 1 => bp_Re_partsOn_4 (wp_Re_partsOn_4 Q n) Q
def bp_Re_partsOn_0 (Q : Int32 → RS → Prop) (h : RS) (i0 : Nat) (x1 : Int32) : Prop :=
  ∃ n2 : Nat, wp_Re_partsOn_4 Q n2 h i0 x1 (0 : Int32) (0 : Int32)
def wp_Re_partsOn (h : RS) (i0 : Nat) (x1 : Int32) (Q : Int32 → RS → Prop) : Prop := bp_Re_partsOn_0 Q h i0 x1
def bp_Re_sendsTo_4 (K4 : RS → Nat → Int32 → Int32 → Int32 → Prop) (Q : Int32 → RS → Prop) (h : RS) (i0 : Nat) (x1 : Int32) (x2 : Int32) (x3 : Int32) : Prop :=
  ((h (29 + i0) 6) ≤ x3 → Q x2 h) ∧
  (¬ (h (29 + i0) 6) ≤ x3 → ∃ k1 : Nat, k1 < 4 ∧ x3 = nI k1 ∧ ((h (61 + i0) k1) = 0 → K4 h i0 x1 x2 (x3 + 1)) ∧
  (¬ (h (61 + i0) k1) = 0 → ∃ k2 : Nat, k2 < 4 ∧ x3 = nI k2 ∧ (¬ (h (69 + i0) k2) = x1 → K4 h i0 x1 x2 (x3 + 1)) ∧
  ((h (69 + i0) k2) = x1 → K4 h i0 x1 (x2 + 1) (x3 + 1))))
def wp_Re_sendsTo_4 (Q : Int32 → RS → Prop) : Nat → RS → Nat → Int32 → Int32 → Int32 → Prop
  | 0 => fun _ _ _ _ _ => False
  | n + 1 => bp_Re_sendsTo_4 (wp_Re_sendsTo_4 Q n) Q
def bp_Re_sendsTo_0 (Q : Int32 → RS → Prop) (h : RS) (i0 : Nat) (x1 : Int32) : Prop :=
  ∃ n3 : Nat, wp_Re_sendsTo_4 Q n3 h i0 x1 (0 : Int32) (0 : Int32)
def wp_Re_sendsTo (h : RS) (i0 : Nat) (x1 : Int32) (Q : Int32 → RS → Prop) : Prop := bp_Re_sendsTo_0 Q h i0 x1
def bp_V_hasRoom_22 (K22 : RS → Nat → Int32 → Prop) (Q : Int32 → RS → Prop) (h : RS) (i1 : Nat) (x2 : Int32) : Prop :=
  ((h 0 1) ≤ x2 → isB (1 : Int32) ∧ Q (1 : Int32) h) ∧
  (¬ (h 0 1) ≤ x2 → ∃ k1 : Nat, k1 < 8 ∧ x2 = nI k1 ∧ wp_Re_partsOn h i1 x2 (fun r2 h3 => wp_Re_sendsTo h3 i1 x2 (fun r4 h5 => ((((h (13 + k1) 2) - r2) + r4) ≤ (6 : Int32) → K22 h5 i1 (x2 + 1)) ∧
  (¬ (((h (13 + k1) 2) - r2) + r4) ≤ (6 : Int32) → isB (0 : Int32) ∧ Q (0 : Int32) h5))))
def wp_V_hasRoom_22 (Q : Int32 → RS → Prop) : Nat → RS → Nat → Int32 → Prop
  | 0 => fun _ _ _ => False
  | n + 1 => bp_V_hasRoom_22 (wp_V_hasRoom_22 Q n) Q
def bp_V_hasRoom_0 (Q : Int32 → RS → Prop) (h : RS) (i1 : Nat) : Prop :=
  wp_Re_sendCount h i1 (fun r6 h7 => (((h 3 0) + r6) ≤ (300 : Int32) → ∃ n8 : Nat, wp_V_hasRoom_22 Q n8 h7 i1 (0 : Int32)) ∧
  (¬ ((h 3 0) + r6) ≤ (300 : Int32) → isB (0 : Int32) ∧ Q (0 : Int32) h7))
def wp_V_hasRoom (h : RS) (i1 : Nat) (Q : Int32 → RS → Prop) : Prop := bp_V_hasRoom_0 Q h i1
def bp_V_allRise_2 (K2 : RS → Int32 → Int32 → Prop) (Q : Int32 → RS → Prop) (h : RS) (x1 : Int32) (x2 : Int32) : Prop :=
  (x1 ≤ x2 → isB (1 : Int32) ∧ Q (1 : Int32) h) ∧
  (¬ x1 ≤ x2 → ∃ k1 : Nat, k1 < 4 ∧ (x2 - (1 : Int32)) = nI k1 ∧ ∃ k2 : Nat, k2 < 4 ∧ x2 = nI k2 ∧ ((h 12 k1) < (h 12 k2) → K2 h x1 (x2 + 1)) ∧
  (¬ (h 12 k1) < (h 12 k2) → isB (0 : Int32) ∧ Q (0 : Int32) h))
def wp_V_allRise_2 (Q : Int32 → RS → Prop) : Nat → RS → Int32 → Int32 → Prop
  | 0 => fun _ _ _ => False
  | n + 1 => bp_V_allRise_2 (wp_V_allRise_2 Q n) Q
def bp_V_allRise_0 (Q : Int32 → RS → Prop) (h : RS) (x1 : Int32) : Prop :=
  ∃ n3 : Nat, wp_V_allRise_2 Q n3 h x1 (1 : Int32)
def wp_V_allRise (h : RS) (x1 : Int32) (Q : Int32 → RS → Prop) : Prop := bp_V_allRise_0 Q h x1
def bp_V_allEqual_2 (K2 : RS → Int32 → Int32 → Prop) (Q : Int32 → RS → Prop) (h : RS) (x1 : Int32) (x2 : Int32) : Prop :=
  (x1 ≤ x2 → isB (1 : Int32) ∧ Q (1 : Int32) h) ∧
  (¬ x1 ≤ x2 → ∃ k1 : Nat, k1 < 4 ∧ x2 = nI k1 ∧ ∃ k2 : Nat, k2 < 4 ∧ (0 : Int32) = nI k2 ∧ ((h 12 k1) = (h 12 k2) → K2 h x1 (x2 + 1)) ∧
  (¬ (h 12 k1) = (h 12 k2) → isB (0 : Int32) ∧ Q (0 : Int32) h))
def wp_V_allEqual_2 (Q : Int32 → RS → Prop) : Nat → RS → Int32 → Int32 → Prop
  | 0 => fun _ _ _ => False
  | n + 1 => bp_V_allEqual_2 (wp_V_allEqual_2 Q n) Q
def bp_V_allEqual_0 (Q : Int32 → RS → Prop) (h : RS) (x1 : Int32) : Prop :=
  ∃ n3 : Nat, wp_V_allEqual_2 Q n3 h x1 (1 : Int32)
def wp_V_allEqual (h : RS) (x1 : Int32) (Q : Int32 → RS → Prop) : Prop := bp_V_allEqual_0 Q h x1
def bp_V_allDiffer_9 (K2 : RS → Int32 → Int32 → Prop) (K9 : RS → Int32 → Int32 → Int32 → Prop) (Q : Int32 → RS → Prop) (h : RS) (x1 : Int32) (x2 : Int32) (x3 : Int32) : Prop :=
  (x2 ≤ x3 → K2 h x1 (x2 + 1)) ∧
  (¬ x2 ≤ x3 → ∃ k1 : Nat, k1 < 4 ∧ x2 = nI k1 ∧ ∃ k2 : Nat, k2 < 4 ∧ x3 = nI k2 ∧ (¬ (h 12 k1) = (h 12 k2) → K9 h x1 x2 (x3 + 1)) ∧
  ((h 12 k1) = (h 12 k2) → isB (0 : Int32) ∧ Q (0 : Int32) h))
def wp_V_allDiffer_9 (K2 : RS → Int32 → Int32 → Prop) (Q : Int32 → RS → Prop) : Nat → RS → Int32 → Int32 → Int32 → Prop
  | 0 => fun _ _ _ _ => False
  | n + 1 => bp_V_allDiffer_9 K2 (wp_V_allDiffer_9 K2 Q n) Q
def bp_V_allDiffer_2 (K2 : RS → Int32 → Int32 → Prop) (Q : Int32 → RS → Prop) (h : RS) (x1 : Int32) (x2 : Int32) : Prop :=
  (x1 ≤ x2 → isB (1 : Int32) ∧ Q (1 : Int32) h) ∧
  (¬ x1 ≤ x2 → ∃ n3 : Nat, wp_V_allDiffer_9 K2 Q n3 h x1 x2 (0 : Int32))
def wp_V_allDiffer_2 (Q : Int32 → RS → Prop) : Nat → RS → Int32 → Int32 → Prop
  | 0 => fun _ _ _ => False
  | n + 1 => bp_V_allDiffer_2 (wp_V_allDiffer_2 Q n) Q
def bp_V_allDiffer_0 (Q : Int32 → RS → Prop) (h : RS) (x1 : Int32) : Prop :=
  ∃ n4 : Nat, wp_V_allDiffer_2 Q n4 h x1 (1 : Int32)
def wp_V_allDiffer (h : RS) (x1 : Int32) (Q : Int32 → RS → Prop) : Prop := bp_V_allDiffer_0 Q h x1
def bp_V_sum_5 (K5 : RS → Int32 → Int64 → Int32 → Prop) (Q : Int64 → RS → Prop) (h : RS) (x1 : Int32) (x2 : Int64) (x4 : Int32) : Prop :=
  (x1 ≤ x4 → Q x2 h) ∧
  (¬ x1 ≤ x4 → ∃ k1 : Nat, k1 < 4 ∧ x4 = nI k1 ∧ K5 h x1 (x2 + (Int32.toInt64 (h 12 k1))) (x4 + 1))
def wp_V_sum_5 (Q : Int64 → RS → Prop) : Nat → RS → Int32 → Int64 → Int32 → Prop
  | 0 => fun _ _ _ _ => False
  | n + 1 => bp_V_sum_5 (wp_V_sum_5 Q n) Q
def bp_V_sum_0 (Q : Int64 → RS → Prop) (h : RS) (x1 : Int32) : Prop :=
  ∃ n2 : Nat, wp_V_sum_5 Q n2 h x1 (0 : Int64) (0 : Int32)
def wp_V_sum (h : RS) (x1 : Int32) (Q : Int64 → RS → Prop) : Prop := bp_V_sum_0 Q h x1
def bp_Re_guardHolds_0 (Q : Int32 → RS → Prop) (h : RS) (i0 : Nat) : Prop :=
  ((h (29 + i0) 4) = 1 → (wp_V_allRise h (h (29 + i0) 0) (fun r1 h2 => isB r1 ∧ Q r1 h2))) ∧
  ((h (29 + i0) 4) = 2 → (wp_V_allEqual h (h (29 + i0) 0) (fun r3 h4 => isB r3 ∧ Q r3 h4))) ∧
  ((h (29 + i0) 4) = 3 → (wp_V_allDiffer h (h (29 + i0) 0) (fun r5 h6 => isB r5 ∧ Q r5 h6))) ∧
  ((h (29 + i0) 4) = 4 → (wp_V_sum h (h (29 + i0) 0) (fun r7 h8 => (0 < (lg_cmp r7 (Int32.toInt64 (h8 (29 + i0) 5))) → isB (0 : Int32) ∧ Q (0 : Int32) h8) ∧
  (¬ 0 < (lg_cmp r7 (Int32.toInt64 (h8 (29 + i0) 5))) → isB (1 : Int32) ∧ Q (1 : Int32) h8)))) ∧
  ((h (29 + i0) 4) = 5 → (((h (29 + i0) 5) = 0 → isB (0 : Int32) ∧ Q (0 : Int32) h) ∧
  (¬ (h (29 + i0) 5) = 0 → wp_V_sum h (h (29 + i0) 0) (fun r9 h10 => ¬ (Int32.toInt64 (h10 (29 + i0) 5)) = 0 ∧ (¬ (lg_cmp (r9 - r9 / (Int32.toInt64 (h10 (29 + i0) 5)) * (Int32.toInt64 (h10 (29 + i0) 5))) (0 : Int64)) = 0 → isB (0 : Int32) ∧ Q (0 : Int32) h10) ∧
  ((lg_cmp (r9 - r9 / (Int32.toInt64 (h10 (29 + i0) 5)) * (Int32.toInt64 (h10 (29 + i0) 5))) (0 : Int64)) = 0 → isB (1 : Int32) ∧ Q (1 : Int32) h10))))) ∧
  (¬ (h (29 + i0) 4) = 1 → ¬ (h (29 + i0) 4) = 2 → ¬ (h (29 + i0) 4) = 3 → ¬ (h (29 + i0) 4) = 4 → ¬ (h (29 + i0) 4) = 5 → (isB (1 : Int32) ∧ Q (1 : Int32) h))
def wp_Re_guardHolds (h : RS) (i0 : Nat) (Q : Int32 → RS → Prop) : Prop := bp_Re_guardHolds_0 Q h i0
def bp_Re_passesTest_0 (Q : Int32 → RS → Prop) (h : RS) (i0 : Nat) (x1 : Int32) (x2 : Int32) : Prop :=
  ∃ k1 : Nat, k1 < 4 ∧ x1 = nI k1 ∧ ∃ k2 : Nat, k2 < 4 ∧ x1 = nI k2 ∧ ((h (45 + i0) k2) = 1 → ((¬ x2 = (h (53 + i0) k1) → isB (0 : Int32) ∧ Q (0 : Int32) h) ∧
  (x2 = (h (53 + i0) k1) → isB (1 : Int32) ∧ Q (1 : Int32) h))) ∧
  ((h (45 + i0) k2) = 2 → (((h (53 + i0) k1) ≤ x2 → isB (0 : Int32) ∧ Q (0 : Int32) h) ∧
  (¬ (h (53 + i0) k1) ≤ x2 → isB (1 : Int32) ∧ Q (1 : Int32) h))) ∧
  ((h (45 + i0) k2) = 3 → ((x2 < (h (53 + i0) k1) → isB (0 : Int32) ∧ Q (0 : Int32) h) ∧
  (¬ x2 < (h (53 + i0) k1) → isB (1 : Int32) ∧ Q (1 : Int32) h))) ∧
  ((h (45 + i0) k2) = 4 → (((x2 &&& (h (53 + i0) k1)) = 0 → isB (0 : Int32) ∧ Q (0 : Int32) h) ∧
  (¬ (x2 &&& (h (53 + i0) k1)) = 0 → isB (1 : Int32) ∧ Q (1 : Int32) h))) ∧
  (¬ (h (45 + i0) k2) = 1 → ¬ (h (45 + i0) k2) = 2 → ¬ (h (45 + i0) k2) = 3 → ¬ (h (45 + i0) k2) = 4 → (isB (1 : Int32) ∧ Q (1 : Int32) h))
def wp_Re_passesTest (h : RS) (i0 : Nat) (x1 : Int32) (x2 : Int32) (Q : Int32 → RS → Prop) : Prop := bp_Re_passesTest_0 Q h i0 x1 x2
def bp_Mt_holdsBefore_2 (K2 : RS → Int32 → Int32 → Int32 → Prop) (Q : Int32 → RS → Prop) (h : RS) (x1 : Int32) (x2 : Int32) (x3 : Int32) : Prop :=
  (x1 ≤ x3 → isB (0 : Int32) ∧ Q (0 : Int32) h) ∧
  (¬ x1 ≤ x3 → ∃ k1 : Nat, k1 < 4 ∧ x3 = nI k1 ∧ (¬ (h 11 k1) = x2 → K2 h x1 x2 (x3 + 1)) ∧
  ((h 11 k1) = x2 → isB (1 : Int32) ∧ Q (1 : Int32) h))
def wp_Mt_holdsBefore_2 (Q : Int32 → RS → Prop) : Nat → RS → Int32 → Int32 → Int32 → Prop
  | 0 => fun _ _ _ _ => False
  | n + 1 => bp_Mt_holdsBefore_2 (wp_Mt_holdsBefore_2 Q n) Q
def bp_Mt_holdsBefore_0 (Q : Int32 → RS → Prop) (h : RS) (x1 : Int32) (x2 : Int32) : Prop :=
  ∃ n2 : Nat, wp_Mt_holdsBefore_2 Q n2 h x1 x2 (0 : Int32)
def wp_Mt_holdsBefore (h : RS) (x1 : Int32) (x2 : Int32) (Q : Int32 → RS → Prop) : Prop := bp_Mt_holdsBefore_0 Q h x1 x2
def bp_V_fillMatch_38 (Rc : RS → Nat → Int32 → (Int32 → RS → Prop) → Prop) (K38 : RS → Nat → Int32 → Nat → Int32 → Prop) (Q : Int32 → RS → Prop) (h : RS) (i1 : Nat) (x4 : Int32) (i5 : Nat) (x6 : Int32) : Prop :=
  ((h (13 + i5) 2) ≤ x6 → isB (0 : Int32) ∧ Q (0 : Int32) h) ∧
  (¬ (h (13 + i5) 2) ≤ x6 → ∃ k1 : Nat, k1 < 6 ∧ x6 = nI k1 ∧ ∃ k2 : Nat, k2 < 300 ∧ (h (21 + i5) k1) = nI k2 ∧ wp_Re_passesTest h i1 x4 (h 7 k2) (fun r3 h4 => (r3 = 0 → K38 h4 i1 x4 i5 (x6 + 1)) ∧
  (¬ r3 = 0 → wp_Mt_holdsBefore h4 x4 (h (21 + i5) k1) (fun r5 h6 => (¬ r5 = 0 → K38 h6 i1 x4 i5 (x6 + 1)) ∧
  (r5 = 0 → ∃ k7 : Nat, k7 < 4 ∧ x4 = nI k7 ∧ ∀ h8 : RS, h8 = up2 h6 11 k7 (h (21 + i5) k1) → ∃ k9 : Nat, k9 < 4 ∧ x4 = nI k9 ∧ ∀ h10 : RS, h10 = up2 h8 12 k9 (h 7 k2) → Rc h10 i1 (x4 + (1 : Int32)) (fun r11 h12 => (r11 = 0 → K38 h12 i1 x4 i5 (x6 + 1)) ∧
  (¬ r11 = 0 → isB (1 : Int32) ∧ Q (1 : Int32) h12)))))))
def wp_V_fillMatch_38 (Rc : RS → Nat → Int32 → (Int32 → RS → Prop) → Prop) (Q : Int32 → RS → Prop) : Nat → RS → Nat → Int32 → Nat → Int32 → Prop
  | 0 => fun _ _ _ _ _ => False
  | n + 1 => bp_V_fillMatch_38 Rc (wp_V_fillMatch_38 Rc Q n) Q
def bp_V_fillMatch_15 (Rc : RS → Nat → Int32 → (Int32 → RS → Prop) → Prop) (Q : Int32 → RS → Prop) (h : RS) (i1 : Nat) : Prop :=
  wp_Re_guardHolds h i1 (fun r13 h14 => isB r13 ∧ Q r13 h14)
def bp_V_fillMatch_0 (Rc : RS → Nat → Int32 → (Int32 → RS → Prop) → Prop) (Q : Int32 → RS → Prop) (h : RS) (i1 : Nat) (x4 : Int32) : Prop :=
  ((4 : Int32) ≤ x4 → bp_V_fillMatch_15 Rc Q h i1) ∧
  (¬ (4 : Int32) ≤ x4 → (x4 < (h (29 + i1) 0) → ∃ k15 : Nat, k15 < 4 ∧ x4 = nI k15 ∧ ∃ k16 : Nat, k16 < 8 ∧ (h (37 + i1) k15) = nI k16 ∧ ∃ n17 : Nat, wp_V_fillMatch_38 Rc Q n17 h i1 x4 k16 (0 : Int32)) ∧
  (¬ x4 < (h (29 + i1) 0) → bp_V_fillMatch_15 Rc Q h i1))
def wp_V_fillMatch : Nat → RS → Nat → Int32 → (Int32 → RS → Prop) → Prop
  | 0 => fun _ _ _ _ => False
  | dd + 1 => fun h i1 x4 Q => bp_V_fillMatch_0 (wp_V_fillMatch dd) Q h i1 x4
def bp_V_findEnabledMatch_0 (Q : Int32 → RS → Prop) (h : RS) (x1 : Int32) : Prop :=
  ((h 0 4) = 0 → isB (0 : Int32) ∧ Q (0 : Int32) h) ∧
  (¬ (h 0 4) = 0 → ∃ k1 : Nat, k1 < 8 ∧ x1 = nI k1 ∧ wp_V_hasRoom h k1 (fun r2 h3 => (r2 = 0 → isB (0 : Int32) ∧ Q (0 : Int32) h3) ∧
  (¬ r2 = 0 → ∃ k4 : Nat, k4 < 8 ∧ x1 = nI k4 ∧ ∃ d7 : Nat, d7 ≤ 5 ∧ wp_V_fillMatch d7 h3 k4 (0 : Int32) (fun r5 h6 => (r5 = 0 → isB (0 : Int32) ∧ Q (0 : Int32) h6) ∧
  (¬ r5 = 0 → isB (1 : Int32) ∧ Q (1 : Int32) h6)))))
def wp_V_findEnabledMatch (h : RS) (x1 : Int32) (Q : Int32 → RS → Prop) : Prop := bp_V_findEnabledMatch_0 Q h x1
def bp_V_findNext_27 (K27 : RS → Int32 → Int32 → Prop) (Q : Int32 → RS → Prop) (h : RS) (x1 : Int32) (x2 : Int32) : Prop :=
  ((h 0 3) ≤ x2 → Q (-1 : Int32) h) ∧
  (¬ (h 0 3) ≤ x2 → ¬ (h 0 3) = 0 ∧ wp_V_findEnabledMatch h ((x1 + x2) - (x1 + x2) / (h 0 3) * (h 0 3)) (fun r1 h2 => (r1 = 0 → K27 h2 x1 (x2 + 1)) ∧
  (¬ r1 = 0 → Q ((x1 + x2) - (x1 + x2) / (h 0 3) * (h 0 3)) h2)))
def wp_V_findNext_27 (Q : Int32 → RS → Prop) : Nat → RS → Int32 → Int32 → Prop
  | 0 => fun _ _ _ => False
  | n + 1 => bp_V_findNext_27 (wp_V_findNext_27 Q n) Q
def bp_V_findNext_24 (Q : Int32 → RS → Prop) (h : RS) (y0 : Int32) : Prop :=
  ∃ n3 : Nat, wp_V_findNext_27 Q n3 h y0 (0 : Int32)
def bp_V_findNext_0 (Q : Int32 → RS → Prop) (h : RS) : Prop :=
  (¬ (h 0 8) = 0 → ∃ k4 : Nat, k4 < 300 ∧ ((h 0 8) - (1 : Int32)) = nI k4 ∧ bp_V_findNext_24 Q h ((h 5 k4) + (1 : Int32))) ∧
  ((h 0 8) = 0 → bp_V_findNext_24 Q h (0 : Int32))
def wp_V_findNext (h : RS) (Q : Int32 → RS → Prop) : Prop := bp_V_findNext_0 Q h
def bp_V_consume_0 (Q : RS → Prop) (h : RS) (x1 : Int32) : Prop :=
  ∃ k1 : Nat, k1 < 300 ∧ x1 = nI k1 ∧ ∀ h2 : RS, h2 = up2 h 8 k1 (2 : Int32) → ∃ k3 : Nat, k3 < 300 ∧ x1 = nI k3 ∧ ∀ h4 : RS, h4 = up2 h2 9 k3 (h2 0 8) → ∃ k5 : Nat, k5 < 300 ∧ x1 = nI k5 ∧ ∃ k6 : Nat, k6 < 8 ∧ (h4 6 k5) = nI k6 ∧ wp_Ch_removePending h4 k6 x1 (fun h7 => Q h7)
def wp_V_consume (h : RS) (x1 : Int32) (Q : RS → Prop) : Prop := bp_V_consume_0 Q h x1
def bp_V_greatest_6 (K6 : RS → Int32 → Int32 → Int32 → Prop) (Q : Int32 → RS → Prop) (h : RS) (x1 : Int32) (x2 : Int32) (x3 : Int32) : Prop :=
  (x1 ≤ x3 → Q x2 h) ∧
  (¬ x1 ≤ x3 → ∃ k1 : Nat, k1 < 4 ∧ x3 = nI k1 ∧ K6 h x1 (if x2 < (h 12 k1) then (h 12 k1) else x2) (x3 + 1))
def wp_V_greatest_6 (Q : Int32 → RS → Prop) : Nat → RS → Int32 → Int32 → Int32 → Prop
  | 0 => fun _ _ _ _ => False
  | n + 1 => bp_V_greatest_6 (wp_V_greatest_6 Q n) Q
def bp_V_greatest_0 (Q : Int32 → RS → Prop) (h : RS) (x1 : Int32) : Prop :=
  ∃ k2 : Nat, k2 < 4 ∧ (0 : Int32) = nI k2 ∧ ∃ n3 : Nat, wp_V_greatest_6 Q n3 h x1 (h 12 k2) (1 : Int32)
def wp_V_greatest (h : RS) (x1 : Int32) (Q : Int32 → RS → Prop) : Prop := bp_V_greatest_0 Q h x1
def bp_Re_evaluate_0 (Q : Int32 → RS → Prop) (h : RS) (i0 : Nat) (x1 : Int32) : Prop :=
  ∃ k1 : Nat, k1 < 4 ∧ x1 = nI k1 ∧ ∃ k2 : Nat, k2 < 4 ∧ x1 = nI k2 ∧ ((h (77 + i0) k2) = 1 → (∃ k3 : Nat, k3 < 4 ∧ x1 = nI k3 ∧ ∃ k4 : Nat, k4 < 4 ∧ (h (85 + i0) k3) = nI k4 ∧ Q ((h 12 k4) + (h (93 + i0) k1)) h)) ∧
  ((h (77 + i0) k2) = 2 → (∃ k5 : Nat, k5 < 4 ∧ x1 = nI k5 ∧ ∃ k6 : Nat, k6 < 4 ∧ (h (85 + i0) k5) = nI k6 ∧ Q ((h 12 k6) * (h (93 + i0) k1)) h)) ∧
  ((h (77 + i0) k2) = 3 → (wp_V_sum h (h (29 + i0) 0) (fun r7 h8 => Q ((Int64.toInt32 r7) + (h (93 + i0) k1)) h8))) ∧
  ((h (77 + i0) k2) = 4 → (wp_V_greatest h (h (29 + i0) 0) (fun r9 h10 => Q r9 h10))) ∧
  (¬ (h (77 + i0) k2) = 1 → ¬ (h (77 + i0) k2) = 2 → ¬ (h (77 + i0) k2) = 3 → ¬ (h (77 + i0) k2) = 4 → (Q (h (93 + i0) k1) h))
def wp_Re_evaluate (h : RS) (i0 : Nat) (x1 : Int32) (Q : Int32 → RS → Prop) : Prop := bp_Re_evaluate_0 Q h i0 x1
def bp_V_fire_38 (K38 : RS → Int32 → Nat → Int32 → Prop) (Q : RS → Prop) (h : RS) (x1 : Int32) (i2 : Nat) (x3 : Int32) : Prop :=
  ((h (29 + i2) 6) ≤ x3 → ∃ k1 : Nat, k1 < 300 ∧ (h 0 8) = nI k1 ∧ ∀ h2 : RS, h2 = up2 h 5 k1 x1 → ∀ h3 : RS, h3 = up2 h2 0 8 ((h2 0 8) + (1 : Int32)) → Q h3) ∧
  (¬ (h (29 + i2) 6) ≤ x3 → wp_Re_evaluate h i2 x3 (fun r4 h5 => ∃ k6 : Nat, k6 < 4 ∧ x3 = nI k6 ∧ ((h5 (61 + i2) k6) = 0 → ∃ k7 : Nat, k7 < 4 ∧ x3 = nI k7 ∧ ∃ k8 : Nat, k8 < 4 ∧ (h5 (69 + i2) k7) = nI k8 ∧ ∃ k9 : Nat, k9 < 300 ∧ (h5 11 k8) = nI k9 ∧ ∀ h10 : RS, h10 = up2 h5 10 k9 r4 → K38 h10 x1 i2 (x3 + 1)) ∧
  (¬ (h5 (61 + i2) k6) = 0 → ∃ k11 : Nat, k11 < 4 ∧ x3 = nI k11 ∧ wp_V_makeMessage h5 (h5 (69 + i2) k11) r4 (fun r12 h13 => K38 h13 x1 i2 (x3 + 1)))))
def wp_V_fire_38 (Q : RS → Prop) : Nat → RS → Int32 → Nat → Int32 → Prop
  | 0 => fun _ _ _ _ => False
  | n + 1 => bp_V_fire_38 (wp_V_fire_38 Q n) Q
def bp_V_fire_9 (K9 : RS → Int32 → Nat → Int32 → Prop) (Q : RS → Prop) (h : RS) (x1 : Int32) (i2 : Nat) (x3 : Int32) : Prop :=
  ((h (29 + i2) 0) ≤ x3 → ∃ n14 : Nat, wp_V_fire_38 Q n14 h x1 i2 (0 : Int32)) ∧
  (¬ (h (29 + i2) 0) ≤ x3 → ∃ k15 : Nat, k15 < 4 ∧ x3 = nI k15 ∧ wp_V_consume h (h 11 k15) (fun h16 => K9 h16 x1 i2 (x3 + 1)))
def wp_V_fire_9 (Q : RS → Prop) : Nat → RS → Int32 → Nat → Int32 → Prop
  | 0 => fun _ _ _ _ => False
  | n + 1 => bp_V_fire_9 (wp_V_fire_9 Q n) Q
def bp_V_fire_0 (Q : RS → Prop) (h : RS) (x1 : Int32) : Prop :=
  ∃ k17 : Nat, k17 < 8 ∧ x1 = nI k17 ∧ ∃ n18 : Nat, wp_V_fire_9 Q n18 h x1 k17 (0 : Int32)
def wp_V_fire (h : RS) (x1 : Int32) (Q : RS → Prop) : Prop := bp_V_fire_0 Q h x1
def bp_V_react_19 (K19 : RS → Int32 → Int32 → Prop) (Q : Int32 → RS → Prop) (h : RS) (x1 : Int32) (x2 : Int32) : Prop :=
  (x1 ≤ x2 → Q x1 h) ∧
  (¬ x1 ≤ x2 → wp_V_findNext h (fun r1 h2 => (¬ r1 = (-1 : Int32) → wp_V_fire h2 r1 (fun h3 => K19 h3 x1 (x2 + 1))) ∧
  (r1 = (-1 : Int32) → Q x2 h2)))
def wp_V_react_19 (Q : Int32 → RS → Prop) : Nat → RS → Int32 → Int32 → Prop
  | 0 => fun _ _ _ => False
  | n + 1 => bp_V_react_19 (wp_V_react_19 Q n) Q
def bp_V_react_0 (Q : Int32 → RS → Prop) (h : RS) (x1 : Int32) : Prop :=
  ((h 0 4) = 0 → Q (-1 : Int32) h) ∧
  (¬ (h 0 4) = 0 → wp_V_isWithin h x1 (5 : Int32) (fun r4 h5 => (¬ r4 = 0 → ∃ n6 : Nat, wp_V_react_19 Q n6 h5 x1 (0 : Int32)) ∧
  (r4 = 0 → Q (-1 : Int32) h5)))
def wp_V_react (h : RS) (x1 : Int32) (Q : Int32 → RS → Prop) : Prop := bp_V_react_0 Q h x1
def bp_V_enabled_4 (K4 : RS → Int32 → Int32 → Prop) (Q : Int32 → RS → Prop) (h : RS) (x1 : Int32) (x2 : Int32) : Prop :=
  ((h 0 3) ≤ x2 → Q x1 h) ∧
  (¬ (h 0 3) ≤ x2 → wp_V_findEnabledMatch h x2 (fun r1 h2 => (r1 = 0 → K4 h2 x1 (x2 + 1)) ∧
  (¬ r1 = 0 → K4 h2 (x1 ||| ((1 : Int32) <<< (x2 &&& 31))) (x2 + 1))))
def wp_V_enabled_4 (Q : Int32 → RS → Prop) : Nat → RS → Int32 → Int32 → Prop
  | 0 => fun _ _ _ => False
  | n + 1 => bp_V_enabled_4 (wp_V_enabled_4 Q n) Q
def bp_V_enabled_0 (Q : Int32 → RS → Prop) (h : RS) : Prop :=
  ∃ n3 : Nat, wp_V_enabled_4 Q n3 h (0 : Int32) (0 : Int32)
def wp_V_enabled (h : RS) (Q : Int32 → RS → Prop) : Prop := bp_V_enabled_0 Q h
def bp_V_next_0 (Q : Int32 → RS → Prop) (h : RS) : Prop :=
  wp_V_findNext h (fun r1 h2 => Q r1 h2)
def wp_V_next (h : RS) (Q : Int32 → RS → Prop) : Prop := bp_V_next_0 Q h
def bp_V_taken_0 (Q : Int32 → RS → Prop) (h : RS) (x1 : Int32) : Prop :=
  wp_V_findNext h (fun r1 h2 => (r1 = (-1 : Int32) → Q (-1 : Int32) h2) ∧
  (¬ r1 = (-1 : Int32) → ∃ k3 : Nat, k3 < 8 ∧ r1 = nI k3 ∧ wp_Re_hasPart h2 k3 x1 (fun r4 h5 => (¬ r4 = 0 → ∃ k6 : Nat, k6 < 4 ∧ x1 = nI k6 ∧ Q (h5 11 k6) h5) ∧
  (r4 = 0 → Q (-1 : Int32) h5))))
def wp_V_taken (h : RS) (x1 : Int32) (Q : Int32 → RS → Prop) : Prop := bp_V_taken_0 Q h x1
def bp_V_pendingAt_0 (Q : Int32 → RS → Prop) (h : RS) (x1 : Int32) (x2 : Int32) : Prop :=
  wp_V_isChannel h x1 (fun r1 h2 => (r1 = 0 → Q (-1 : Int32) h2) ∧
  (¬ r1 = 0 → (x2 < 0 → Q (-1 : Int32) h2) ∧
  (¬ x2 < 0 → ∃ k3 : Nat, k3 < 8 ∧ x1 = nI k3 ∧ (x2 < (h2 (13 + k3) 2) → ∃ k4 : Nat, k4 < 8 ∧ x1 = nI k4 ∧ ∃ k5 : Nat, k5 < 6 ∧ x2 = nI k5 ∧ Q (h2 (21 + k4) k5) h2) ∧
  (¬ x2 < (h2 (13 + k3) 2) → Q (-1 : Int32) h2))))
def wp_V_pendingAt (h : RS) (x1 : Int32) (x2 : Int32) (Q : Int32 → RS → Prop) : Prop := bp_V_pendingAt_0 Q h x1 x2
def bp_V_value_0 (Q : Int32 → RS → Prop) (h : RS) (x1 : Int32) : Prop :=
  wp_Ms_has h x1 (fun r1 h2 => (r1 = 0 → Q (0 : Int32) h2) ∧
  (¬ r1 = 0 → ∃ k3 : Nat, k3 < 300 ∧ x1 = nI k3 ∧ Q (h2 7 k3) h2))
def wp_V_value (h : RS) (x1 : Int32) (Q : Int32 → RS → Prop) : Prop := bp_V_value_0 Q h x1
def bp_V_state_0 (Q : Int32 → RS → Prop) (h : RS) (x1 : Int32) : Prop :=
  wp_Ms_has h x1 (fun r1 h2 => (r1 = 0 → Q (0 : Int32) h2) ∧
  (¬ r1 = 0 → ∃ k3 : Nat, k3 < 300 ∧ x1 = nI k3 ∧ Q (h2 8 k3) h2))
def wp_V_state (h : RS) (x1 : Int32) (Q : Int32 → RS → Prop) : Prop := bp_V_state_0 Q h x1
def bp_V_consumer_0 (Q : Int32 → RS → Prop) (h : RS) (x1 : Int32) : Prop :=
  wp_Ms_has h x1 (fun r1 h2 => (r1 = 0 → Q (-1 : Int32) h2) ∧
  (¬ r1 = 0 → ∃ k3 : Nat, k3 < 300 ∧ x1 = nI k3 ∧ Q (h2 9 k3) h2))
def wp_V_consumer (h : RS) (x1 : Int32) (Q : Int32 → RS → Prop) : Prop := bp_V_consumer_0 Q h x1
def bp_V_answer_0 (Q : Int32 → RS → Prop) (h : RS) (x1 : Int32) : Prop :=
  wp_Ms_has h x1 (fun r1 h2 => (r1 = 0 → Q (0 : Int32) h2) ∧
  (¬ r1 = 0 → ∃ k3 : Nat, k3 < 300 ∧ x1 = nI k3 ∧ Q (h2 10 k3) h2))
def wp_V_answer (h : RS) (x1 : Int32) (Q : Int32 → RS → Prop) : Prop := bp_V_answer_0 Q h x1
def bp_V_fired_0 (Q : Int32 → RS → Prop) (h : RS) (x1 : Int32) : Prop :=
  (x1 < 0 → Q (-1 : Int32) h) ∧
  (¬ x1 < 0 → ((h 0 8) ≤ x1 → Q (-1 : Int32) h) ∧
  (¬ (h 0 8) ≤ x1 → ∃ k1 : Nat, k1 < 300 ∧ x1 = nI k1 ∧ Q (h 5 k1) h))
def wp_V_fired (h : RS) (x1 : Int32) (Q : Int32 → RS → Prop) : Prop := bp_V_fired_0 Q h x1
def bp_M_channel_0 (Q : Int32 → RS → Prop) (h : RS) (x1 : Int32) : Prop :=
  (¬ (h 0 15) = 0 → Q (-1 : Int32) h) ∧
  ((h 0 15) = 0 → ((h 0 0) < (8 : Int32) → ∃ k1 : Nat, k1 < 8 ∧ (h 0 0) = nI k1 ∧ isB x1 ∧ ∀ h2 : RS, h2 = up2 h 1 k1 x1 → ∀ h3 : RS, h3 = up2 h2 0 0 ((h2 0 0) + (1 : Int32)) → Q ((h3 0 0) - (1 : Int32)) h3) ∧
  (¬ (h 0 0) < (8 : Int32) → Q (-1 : Int32) h))
def wp_M_channel (h : RS) (x1 : Int32) (Q : Int32 → RS → Prop) : Prop := bp_M_channel_0 Q h x1
def bp_M_reaction_0 (Q : Int32 → RS → Prop) (h : RS) : Prop :=
  (¬ (h 0 15) = 0 → Q (-1 : Int32) h) ∧
  ((h 0 15) = 0 → ((h 0 2) < (8 : Int32) → ∀ h1 : RS, h1 = up2 h 0 2 ((h 0 2) + (1 : Int32)) → Q ((h1 0 2) - (1 : Int32)) h1) ∧
  (¬ (h 0 2) < (8 : Int32) → Q (-1 : Int32) h))
def wp_M_reaction (h : RS) (Q : Int32 → RS → Prop) : Prop := bp_M_reaction_0 Q h
def bp_M_open_0 (Q : Int32 → RS → Prop) (h : RS) (x1 : Int32) : Prop :=
  (¬ (h 0 15) = 0 → isB (0 : Int32) ∧ Q (0 : Int32) h) ∧
  ((h 0 15) = 0 → (x1 < 0 → isB (0 : Int32) ∧ Q (0 : Int32) h) ∧
  (¬ x1 < 0 → ((h 0 2) ≤ x1 → isB (0 : Int32) ∧ Q (0 : Int32) h) ∧
  (¬ (h 0 2) ≤ x1 → isB (1 : Int32) ∧ Q (1 : Int32) h)))
def wp_M_open (h : RS) (x1 : Int32) (Q : Int32 → RS → Prop) : Prop := bp_M_open_0 Q h x1
def bp_M_isChannel_0 (Q : Int32 → RS → Prop) (h : RS) (x1 : Int32) : Prop :=
  (x1 < 0 → isB (0 : Int32) ∧ Q (0 : Int32) h) ∧
  (¬ x1 < 0 → ((h 0 0) ≤ x1 → isB (0 : Int32) ∧ Q (0 : Int32) h) ∧
  (¬ (h 0 0) ≤ x1 → isB (1 : Int32) ∧ Q (1 : Int32) h))
def wp_M_isChannel (h : RS) (x1 : Int32) (Q : Int32 → RS → Prop) : Prop := bp_M_isChannel_0 Q h x1
def bp_M_hasPart_0 (Q : Int32 → RS → Prop) (h : RS) (x1 : Int32) (x2 : Int32) : Prop :=
  (x2 < 0 → isB (0 : Int32) ∧ Q (0 : Int32) h) ∧
  (¬ x2 < 0 → ∃ k1 : Nat, k1 < 8 ∧ x1 = nI k1 ∧ ((h 2 k1) ≤ x2 → isB (0 : Int32) ∧ Q (0 : Int32) h) ∧
  (¬ (h 2 k1) ≤ x2 → isB (1 : Int32) ∧ Q (1 : Int32) h))
def wp_M_hasPart (h : RS) (x1 : Int32) (x2 : Int32) (Q : Int32 → RS → Prop) : Prop := bp_M_hasPart_0 Q h x1 x2
def bp_M_part_0 (Q : Int32 → RS → Prop) (h : RS) (x1 : Int32) (x2 : Int32) (x3 : Int32) (x4 : Int32) : Prop :=
  wp_M_open h x1 (fun r1 h2 => (r1 = 0 → Q (-1 : Int32) h2) ∧
  (¬ r1 = 0 → wp_M_isChannel h2 x2 (fun r3 h4 => (r3 = 0 → Q (-1 : Int32) h4) ∧
  (¬ r3 = 0 → (x3 < 0 → Q (-1 : Int32) h4) ∧
  (¬ x3 < 0 → ((4 : Int32) < x3 → Q (-1 : Int32) h4) ∧
  (¬ (4 : Int32) < x3 → ∃ k5 : Nat, k5 < 8 ∧ x1 = nI k5 ∧ ((h4 2 k5) < (4 : Int32) → ∃ k6 : Nat, k6 < 8 ∧ x1 = nI k6 ∧ ∃ k7 : Nat, k7 < 32 ∧ (((4 : Int32) * x1) + (h4 2 k6)) = nI k7 ∧ ∀ h8 : RS, h8 = up2 h4 3 k7 x2 → ∃ k9 : Nat, k9 < 32 ∧ (((4 : Int32) * x1) + (h4 2 k6)) = nI k9 ∧ ∀ h10 : RS, h10 = up2 h8 4 k9 x3 → ∃ k11 : Nat, k11 < 32 ∧ (((4 : Int32) * x1) + (h4 2 k6)) = nI k11 ∧ ∀ h12 : RS, h12 = up2 h10 5 k11 x4 → ∃ k13 : Nat, k13 < 8 ∧ x1 = nI k13 ∧ ∃ k14 : Nat, k14 < 8 ∧ x1 = nI k14 ∧ ∀ h15 : RS, h15 = up2 h12 2 k14 ((h12 2 k13) + (1 : Int32)) → ∃ k16 : Nat, k16 < 8 ∧ x1 = nI k16 ∧ Q ((h15 2 k16) - (1 : Int32)) h15) ∧
  (¬ (h4 2 k5) < (4 : Int32) → Q (-1 : Int32) h4)))))))
def wp_M_part (h : RS) (x1 : Int32) (x2 : Int32) (x3 : Int32) (x4 : Int32) (Q : Int32 → RS → Prop) : Prop := bp_M_part_0 Q h x1 x2 x3 x4
def bp_M_guard_0 (Q : Int32 → RS → Prop) (h : RS) (x1 : Int32) (x2 : Int32) (x3 : Int32) : Prop :=
  wp_M_open h x1 (fun r1 h2 => (r1 = 0 → isB (0 : Int32) ∧ Q (0 : Int32) h2) ∧
  (¬ r1 = 0 → (x2 < 0 → isB (0 : Int32) ∧ Q (0 : Int32) h2) ∧
  (¬ x2 < 0 → (x2 ≤ (5 : Int32) → ∃ k3 : Nat, k3 < 8 ∧ x1 = nI k3 ∧ ∀ h4 : RS, h4 = up2 h2 6 k3 x2 → ∃ k5 : Nat, k5 < 8 ∧ x1 = nI k5 ∧ ∀ h6 : RS, h6 = up2 h4 7 k5 x3 → isB (1 : Int32) ∧ Q (1 : Int32) h6) ∧
  (¬ x2 ≤ (5 : Int32) → isB (0 : Int32) ∧ Q (0 : Int32) h2))))
def wp_M_guard (h : RS) (x1 : Int32) (x2 : Int32) (x3 : Int32) (Q : Int32 → RS → Prop) : Prop := bp_M_guard_0 Q h x1 x2 x3
def bp_M_expression_19 (Q : Int32 → RS → Prop) (h : RS) (x1 : Int32) (x3 : Int32) : Prop :=
  wp_M_hasPart h x1 x3 (fun r1 h2 => (r1 = 0 → isB (0 : Int32) ∧ Q (0 : Int32) h2) ∧
  (¬ r1 = 0 → isB (1 : Int32) ∧ Q (1 : Int32) h2))
def bp_M_expression_0 (Q : Int32 → RS → Prop) (h : RS) (x1 : Int32) (x2 : Int32) (x3 : Int32) : Prop :=
  (x2 < 0 → isB (0 : Int32) ∧ Q (0 : Int32) h) ∧
  (¬ x2 < 0 → ((4 : Int32) < x2 → isB (0 : Int32) ∧ Q (0 : Int32) h) ∧
  (¬ (4 : Int32) < x2 → (x2 = (1 : Int32) → bp_M_expression_19 Q h x1 x3) ∧
  (¬ x2 = (1 : Int32) → (¬ x2 = (2 : Int32) → isB (1 : Int32) ∧ Q (1 : Int32) h) ∧
  (x2 = (2 : Int32) → bp_M_expression_19 Q h x1 x3))))
def wp_M_expression (h : RS) (x1 : Int32) (x2 : Int32) (x3 : Int32) (Q : Int32 → RS → Prop) : Prop := bp_M_expression_0 Q h x1 x2 x3
def bp_M_act_0 (Q : RS → Prop) (h : RS) (x1 : Int32) (x2 : Int32) (x3 : Int32) (x4 : Int32) (x5 : Int32) : Prop :=
  ∃ k1 : Nat, k1 < 8 ∧ x1 = nI k1 ∧ ∃ k2 : Nat, k2 < 32 ∧ (((4 : Int32) * x1) + (h 8 k1)) = nI k2 ∧ ∀ h3 : RS, h3 = up2 h 9 k2 x2 → ∃ k4 : Nat, k4 < 32 ∧ (((4 : Int32) * x1) + (h 8 k1)) = nI k4 ∧ ∀ h5 : RS, h5 = up2 h3 10 k4 x3 → ∃ k6 : Nat, k6 < 32 ∧ (((4 : Int32) * x1) + (h 8 k1)) = nI k6 ∧ ∀ h7 : RS, h7 = up2 h5 11 k6 x4 → ∃ k8 : Nat, k8 < 32 ∧ (((4 : Int32) * x1) + (h 8 k1)) = nI k8 ∧ ∀ h9 : RS, h9 = up2 h7 12 k8 x5 → ∃ k10 : Nat, k10 < 8 ∧ x1 = nI k10 ∧ ∃ k11 : Nat, k11 < 8 ∧ x1 = nI k11 ∧ ∀ h12 : RS, h12 = up2 h9 8 k11 ((h9 8 k10) + (1 : Int32)) → Q h12
def wp_M_act (h : RS) (x1 : Int32) (x2 : Int32) (x3 : Int32) (x4 : Int32) (x5 : Int32) (Q : RS → Prop) : Prop := bp_M_act_0 Q h x1 x2 x3 x4 x5
def bp_M_emit_0 (Q : Int32 → RS → Prop) (h : RS) (x1 : Int32) (x2 : Int32) (x3 : Int32) (x4 : Int32) (x5 : Int32) : Prop :=
  wp_M_open h x1 (fun r1 h2 => (r1 = 0 → isB (0 : Int32) ∧ Q (0 : Int32) h2) ∧
  (¬ r1 = 0 → wp_M_isChannel h2 x2 (fun r3 h4 => (r3 = 0 → isB (0 : Int32) ∧ Q (0 : Int32) h4) ∧
  (¬ r3 = 0 → ∃ k5 : Nat, k5 < 8 ∧ x2 = nI k5 ∧ (¬ (h4 1 k5) = 0 → isB (0 : Int32) ∧ Q (0 : Int32) h4) ∧
  ((h4 1 k5) = 0 → wp_M_expression h4 x1 x3 x4 (fun r6 h7 => (r6 = 0 → isB (0 : Int32) ∧ Q (0 : Int32) h7) ∧
  (¬ r6 = 0 → ∃ k8 : Nat, k8 < 8 ∧ x1 = nI k8 ∧ ((h7 8 k8) < (4 : Int32) → ∃ k9 : Nat, k9 < 8 ∧ x1 = nI k9 ∧ ∃ k10 : Nat, k10 < 32 ∧ (((4 : Int32) * x1) + (h7 8 k9)) = nI k10 ∧ ∀ h11 : RS, h11 = up2 h7 13 k10 x5 → wp_M_act h11 x1 x2 (-1 : Int32) x3 x4 (fun h12 => isB (1 : Int32) ∧ Q (1 : Int32) h12)) ∧
  (¬ (h7 8 k8) < (4 : Int32) → isB (0 : Int32) ∧ Q (0 : Int32) h7))))))))
def wp_M_emit (h : RS) (x1 : Int32) (x2 : Int32) (x3 : Int32) (x4 : Int32) (x5 : Int32) (Q : Int32 → RS → Prop) : Prop := bp_M_emit_0 Q h x1 x2 x3 x4 x5
def bp_M_answersPart_53 (K5 : RS → Int32 → Int32 → Int32 → Int32 → Prop) (Q : Int32 → RS → Prop) (h : RS) (x1 : Int32) (x2 : Int32) (x4 : Int32) : Prop :=
  K5 h x1 x2 (0 : Int32) (x4 + 1)
def bp_M_answersPart_49 (K5 : RS → Int32 → Int32 → Int32 → Int32 → Prop) (Q : Int32 → RS → Prop) (h : RS) (x1 : Int32) (x2 : Int32) (x4 : Int32) : Prop :=
  K5 h x1 x2 (1 : Int32) (x4 + 1)
def bp_M_answersPart_5 (K5 : RS → Int32 → Int32 → Int32 → Int32 → Prop) (Q : Int32 → RS → Prop) (h : RS) (x1 : Int32) (x2 : Int32) (x3 : Int32) (x4 : Int32) : Prop :=
  ∃ k1 : Nat, k1 < 8 ∧ x1 = nI k1 ∧ ((h 8 k1) ≤ x4 → isB x3 ∧ Q x3 h) ∧
  (¬ (h 8 k1) ≤ x4 → (¬ x3 = 0 → bp_M_answersPart_49 K5 Q h x1 x2 x4) ∧
  (x3 = 0 → ∃ k2 : Nat, k2 < 32 ∧ (((4 : Int32) * x1) + x4) = nI k2 ∧ (0 ≤ (h 9 k2) → bp_M_answersPart_53 K5 Q h x1 x2 x4) ∧
  (¬ 0 ≤ (h 9 k2) → ∃ k3 : Nat, k3 < 32 ∧ (((4 : Int32) * x1) + x4) = nI k3 ∧ (¬ (h 10 k3) = x2 → bp_M_answersPart_53 K5 Q h x1 x2 x4) ∧
  ((h 10 k3) = x2 → bp_M_answersPart_49 K5 Q h x1 x2 x4))))
def wp_M_answersPart_5 (Q : Int32 → RS → Prop) : Nat → RS → Int32 → Int32 → Int32 → Int32 → Prop
  | 0 => fun _ _ _ _ _ => False
  | n + 1 => bp_M_answersPart_5 (wp_M_answersPart_5 Q n) Q
def bp_M_answersPart_0 (Q : Int32 → RS → Prop) (h : RS) (x1 : Int32) (x2 : Int32) : Prop :=
  ∃ n4 : Nat, wp_M_answersPart_5 Q n4 h x1 x2 (0 : Int32) (0 : Int32)
def wp_M_answersPart (h : RS) (x1 : Int32) (x2 : Int32) (Q : Int32 → RS → Prop) : Prop := bp_M_answersPart_0 Q h x1 x2
def bp_M_reply_0 (Q : Int32 → RS → Prop) (h : RS) (x1 : Int32) (x2 : Int32) (x3 : Int32) (x4 : Int32) (x5 : Int32) : Prop :=
  wp_M_open h x1 (fun r1 h2 => (r1 = 0 → isB (0 : Int32) ∧ Q (0 : Int32) h2) ∧
  (¬ r1 = 0 → wp_M_hasPart h2 x1 x2 (fun r3 h4 => (r3 = 0 → isB (0 : Int32) ∧ Q (0 : Int32) h4) ∧
  (¬ r3 = 0 → ∃ k5 : Nat, k5 < 32 ∧ (((4 : Int32) * x1) + x2) = nI k5 ∧ ∃ k6 : Nat, k6 < 8 ∧ (h4 3 k5) = nI k6 ∧ (¬ (h4 1 k6) = 0 → wp_M_answersPart h4 x1 x2 (fun r7 h8 => (¬ r7 = 0 → isB (0 : Int32) ∧ Q (0 : Int32) h8) ∧
  (r7 = 0 → wp_M_expression h8 x1 x3 x4 (fun r9 h10 => (r9 = 0 → isB (0 : Int32) ∧ Q (0 : Int32) h10) ∧
  (¬ r9 = 0 → ∃ k11 : Nat, k11 < 8 ∧ x1 = nI k11 ∧ ((h10 8 k11) < (4 : Int32) → ∃ k12 : Nat, k12 < 8 ∧ x1 = nI k12 ∧ ∃ k13 : Nat, k13 < 32 ∧ (((4 : Int32) * x1) + (h10 8 k12)) = nI k13 ∧ ∀ h14 : RS, h14 = up2 h10 13 k13 x5 → wp_M_act h14 x1 (-1 : Int32) x2 x3 x4 (fun h15 => isB (1 : Int32) ∧ Q (1 : Int32) h15)) ∧
  (¬ (h10 8 k11) < (4 : Int32) → isB (0 : Int32) ∧ Q (0 : Int32) h10)))))) ∧
  ((h4 1 k6) = 0 → isB (0 : Int32) ∧ Q (0 : Int32) h4)))))
def wp_M_reply (h : RS) (x1 : Int32) (x2 : Int32) (x3 : Int32) (x4 : Int32) (x5 : Int32) (Q : Int32 → RS → Prop) : Prop := bp_M_reply_0 Q h x1 x2 x3 x4 x5
def bp_M_seal_132 (Q : Int32 → RS → Prop) (h : RS) (x2 : Int32) (y1 : Int32) : Prop :=
  isB y1 ∧ ∀ h1 : RS, h1 = up2 h 0 15 y1 → (x2 = 0 → Q (0 : Int32) h1) ∧
  (¬ x2 = 0 → Q (4 : Int32) h1)
def bp_M_seal_102 (K24 : RS → Int32 → Int32 → Int32 → Prop) (K54 : RS → Int32 → Int32 → Int32 → Int32 → Prop) (Q : Int32 → RS → Prop) (h : RS) (x1 : Int32) (x3 : Int32) (x4 : Int32) : Prop :=
  K54 h x1 (0 : Int32) x3 (x4 + 1)
def bp_M_seal_98 (K24 : RS → Int32 → Int32 → Int32 → Prop) (K54 : RS → Int32 → Int32 → Int32 → Int32 → Prop) (Q : Int32 → RS → Prop) (h : RS) (x1 : Int32) (x3 : Int32) (x4 : Int32) : Prop :=
  K54 h x1 (1 : Int32) x3 (x4 + 1)
def bp_M_seal_54 (K24 : RS → Int32 → Int32 → Int32 → Prop) (K54 : RS → Int32 → Int32 → Int32 → Int32 → Prop) (Q : Int32 → RS → Prop) (h : RS) (x1 : Int32) (x2 : Int32) (x3 : Int32) (x4 : Int32) : Prop :=
  ∃ k2 : Nat, k2 < 8 ∧ x3 = nI k2 ∧ ((h 2 k2) ≤ x4 → K24 h x1 x2 (x3 + 1)) ∧
  (¬ (h 2 k2) ≤ x4 → (¬ x2 = 0 → bp_M_seal_98 K24 K54 Q h x1 x3 x4) ∧
  (x2 = 0 → ∃ k3 : Nat, k3 < 32 ∧ (((4 : Int32) * x3) + x4) = nI k3 ∧ ∃ k4 : Nat, k4 < 8 ∧ (h 3 k3) = nI k4 ∧ ((h 1 k4) = 0 → bp_M_seal_102 K24 K54 Q h x1 x3 x4) ∧
  (¬ (h 1 k4) = 0 → wp_M_answersPart h x3 x4 (fun r5 h6 => (¬ r5 = 0 → bp_M_seal_102 K24 K54 Q h6 x1 x3 x4) ∧
  (r5 = 0 → bp_M_seal_98 K24 K54 Q h6 x1 x3 x4)))))
def wp_M_seal_54 (K24 : RS → Int32 → Int32 → Int32 → Prop) (Q : Int32 → RS → Prop) : Nat → RS → Int32 → Int32 → Int32 → Int32 → Prop
  | 0 => fun _ _ _ _ _ => False
  | n + 1 => bp_M_seal_54 K24 (wp_M_seal_54 K24 Q n) Q
def bp_M_seal_50 (K24 : RS → Int32 → Int32 → Int32 → Prop) (Q : Int32 → RS → Prop) (h : RS) (x2 : Int32) (x3 : Int32) (y0 : Int32) : Prop :=
  ∃ n7 : Nat, wp_M_seal_54 K24 Q n7 h y0 x2 x3 (0 : Int32)
def bp_M_seal_45 (K24 : RS → Int32 → Int32 → Int32 → Prop) (Q : Int32 → RS → Prop) (h : RS) (x2 : Int32) (x3 : Int32) : Prop :=
  bp_M_seal_50 K24 Q h x2 x3 (1 : Int32)
def bp_M_seal_24 (K24 : RS → Int32 → Int32 → Int32 → Prop) (Q : Int32 → RS → Prop) (h : RS) (x1 : Int32) (x2 : Int32) (x3 : Int32) : Prop :=
  ((h 0 2) ≤ x3 → (x1 = 0 → (¬ x2 = 0 → bp_M_seal_132 Q h x2 (0 : Int32)) ∧
  (x2 = 0 → bp_M_seal_132 Q h x2 (1 : Int32))) ∧
  (¬ x1 = 0 → Q (3 : Int32) h)) ∧
  (¬ (h 0 2) ≤ x3 → (¬ x1 = 0 → bp_M_seal_45 K24 Q h x2 x3) ∧
  (x1 = 0 → ∃ k8 : Nat, k8 < 8 ∧ x3 = nI k8 ∧ (¬ (h 2 k8) = 0 → bp_M_seal_50 K24 Q h x2 x3 (0 : Int32)) ∧
  ((h 2 k8) = 0 → bp_M_seal_45 K24 Q h x2 x3)))
def wp_M_seal_24 (Q : Int32 → RS → Prop) : Nat → RS → Int32 → Int32 → Int32 → Prop
  | 0 => fun _ _ _ _ => False
  | n + 1 => bp_M_seal_24 (wp_M_seal_24 Q n) Q
def bp_M_seal_0 (Q : Int32 → RS → Prop) (h : RS) : Prop :=
  ((h 0 15) = 0 → (¬ (h 0 2) = 0 → ∃ n9 : Nat, wp_M_seal_24 Q n9 h (0 : Int32) (0 : Int32) (0 : Int32)) ∧
  ((h 0 2) = 0 → Q (2 : Int32) h)) ∧
  (¬ (h 0 15) = 0 → Q (1 : Int32) h)
def wp_M_seal (h : RS) (Q : Int32 → RS → Prop) : Prop := bp_M_seal_0 Q h
def bp_M_make_0 (Q : Int32 → RS → Prop) (h : RS) (x1 : Int32) (x2 : Int32) : Prop :=
  ∃ k1 : Nat, k1 < 300 ∧ (h 0 16) = nI k1 ∧ ∀ h2 : RS, h2 = up2 h 14 k1 x1 → ∃ k3 : Nat, k3 < 300 ∧ (h2 0 16) = nI k3 ∧ ∀ h4 : RS, h4 = up2 h2 15 k3 x2 → ∃ k5 : Nat, k5 < 300 ∧ (h4 0 16) = nI k5 ∧ ∀ h6 : RS, h6 = up2 h4 16 k5 (1 : Int32) → ∃ k7 : Nat, k7 < 300 ∧ (h6 0 16) = nI k7 ∧ ∀ h8 : RS, h8 = up2 h6 17 k7 (-1 : Int32) → ∀ h9 : RS, h9 = up2 h8 0 16 ((h8 0 16) + (1 : Int32)) → Q ((h9 0 16) - (1 : Int32)) h9
def wp_M_make (h : RS) (x1 : Int32) (x2 : Int32) (Q : Int32 → RS → Prop) : Prop := bp_M_make_0 Q h x1 x2
def bp_M_gather_23 (K23 : RS → Int32 → Prop) (Q : RS → Prop) (h : RS) (x1 : Int32) : Prop :=
  ((h 0 16) ≤ x1 → Q h) ∧
  (¬ (h 0 16) ≤ x1 → ∃ k1 : Nat, k1 < 300 ∧ x1 = nI k1 ∧ ∃ k2 : Nat, k2 < 300 ∧ x1 = nI k2 ∧ (¬ (h 16 k2) = (1 : Int32) → K23 h (x1 + 1)) ∧
  ((h 16 k2) = (1 : Int32) → ∃ k3 : Nat, k3 < 8 ∧ (h 14 k1) = nI k3 ∧ ∃ k4 : Nat, k4 < 48 ∧ (((6 : Int32) * (h 14 k1)) + (h 21 k3)) = nI k4 ∧ ∀ h5 : RS, h5 = up2 h 20 k4 x1 → ∃ k6 : Nat, k6 < 8 ∧ (h 14 k1) = nI k6 ∧ ∃ k7 : Nat, k7 < 8 ∧ (h 14 k1) = nI k7 ∧ ∀ h8 : RS, h8 = up2 h5 21 k7 ((h5 21 k6) + (1 : Int32)) → K23 h8 (x1 + 1)))
def wp_M_gather_23 (Q : RS → Prop) : Nat → RS → Int32 → Prop
  | 0 => fun _ _ => False
  | n + 1 => bp_M_gather_23 (wp_M_gather_23 Q n) Q
def bp_M_gather_2 (K2 : RS → Int32 → Prop) (Q : RS → Prop) (h : RS) (x1 : Int32) : Prop :=
  ((8 : Int32) ≤ x1 → ∃ n9 : Nat, wp_M_gather_23 Q n9 h (0 : Int32)) ∧
  (¬ (8 : Int32) ≤ x1 → ∃ k10 : Nat, k10 < 8 ∧ x1 = nI k10 ∧ ∀ h11 : RS, h11 = up2 h 21 k10 (0 : Int32) → K2 h11 (x1 + 1))
def wp_M_gather_2 (Q : RS → Prop) : Nat → RS → Int32 → Prop
  | 0 => fun _ _ => False
  | n + 1 => bp_M_gather_2 (wp_M_gather_2 Q n) Q
def bp_M_gather_0 (Q : RS → Prop) (h : RS) : Prop :=
  ∃ n12 : Nat, wp_M_gather_2 Q n12 h (0 : Int32)
def wp_M_gather (h : RS) (Q : RS → Prop) : Prop := bp_M_gather_0 Q h
def bp_M_enter_0 (Q : Int32 → RS → Prop) (h : RS) (x1 : Int32) (x2 : Int32) (x3 : Int32) : Prop :=
  wp_M_gather h (fun h1 => ((h1 0 15) = 0 → Q (-1 : Int32) h1) ∧
  (¬ (h1 0 15) = 0 → wp_M_isChannel h1 x1 (fun r2 h3 => (r2 = 0 → Q (-1 : Int32) h3) ∧
  (¬ r2 = 0 → ∃ k4 : Nat, k4 < 8 ∧ x1 = nI k4 ∧ (¬ (h3 1 k4) = x3 → Q (-1 : Int32) h3) ∧
  ((h3 1 k4) = x3 → ∃ k5 : Nat, k5 < 8 ∧ x1 = nI k5 ∧ ((6 : Int32) ≤ (h3 21 k5) → Q (-1 : Int32) h3) ∧
  (¬ (6 : Int32) ≤ (h3 21 k5) → ((h3 0 16) < (300 : Int32) → wp_M_make h3 x1 x2 (fun r6 h7 => Q r6 h7)) ∧
  (¬ (h3 0 16) < (300 : Int32) → Q (-1 : Int32) h3)))))))
def wp_M_enter (h : RS) (x1 : Int32) (x2 : Int32) (x3 : Int32) (Q : Int32 → RS → Prop) : Prop := bp_M_enter_0 Q h x1 x2 x3
def bp_M_put_0 (Q : Int32 → RS → Prop) (h : RS) (x1 : Int32) (x2 : Int32) : Prop :=
  wp_M_enter h x1 x2 (0 : Int32) (fun r1 h2 => Q r1 h2)
def wp_M_put (h : RS) (x1 : Int32) (x2 : Int32) (Q : Int32 → RS → Prop) : Prop := bp_M_put_0 Q h x1 x2
def bp_M_call_0 (Q : Int32 → RS → Prop) (h : RS) (x1 : Int32) (x2 : Int32) : Prop :=
  wp_M_enter h x1 x2 (1 : Int32) (fun r1 h2 => Q r1 h2)
def wp_M_call (h : RS) (x1 : Int32) (x2 : Int32) (Q : Int32 → RS → Prop) : Prop := bp_M_call_0 Q h x1 x2
def bp_M_isMessage_0 (Q : Int32 → RS → Prop) (h : RS) (x1 : Int32) : Prop :=
  (x1 < 0 → isB (0 : Int32) ∧ Q (0 : Int32) h) ∧
  (¬ x1 < 0 → ((h 0 16) ≤ x1 → isB (0 : Int32) ∧ Q (0 : Int32) h) ∧
  (¬ (h 0 16) ≤ x1 → isB (1 : Int32) ∧ Q (1 : Int32) h))
def wp_M_isMessage (h : RS) (x1 : Int32) (Q : Int32 → RS → Prop) : Prop := bp_M_isMessage_0 Q h x1
def bp_M_withdraw_0 (Q : Int32 → RS → Prop) (h : RS) (x1 : Int32) : Prop :=
  wp_M_isMessage h x1 (fun r1 h2 => (r1 = 0 → isB (0 : Int32) ∧ Q (0 : Int32) h2) ∧
  (¬ r1 = 0 → ∃ k3 : Nat, k3 < 300 ∧ x1 = nI k3 ∧ ∃ k4 : Nat, k4 < 8 ∧ (h2 14 k3) = nI k4 ∧ ((h2 1 k4) = 0 → isB (0 : Int32) ∧ Q (0 : Int32) h2) ∧
  (¬ (h2 1 k4) = 0 → ∃ k5 : Nat, k5 < 300 ∧ x1 = nI k5 ∧ ((h2 16 k5) = (1 : Int32) → ∃ k6 : Nat, k6 < 300 ∧ x1 = nI k6 ∧ ∀ h7 : RS, h7 = up2 h2 16 k6 (3 : Int32) → isB (1 : Int32) ∧ Q (1 : Int32) h7) ∧
  (¬ (h2 16 k5) = (1 : Int32) → isB (0 : Int32) ∧ Q (0 : Int32) h2))))
def wp_M_withdraw (h : RS) (x1 : Int32) (Q : Int32 → RS → Prop) : Prop := bp_M_withdraw_0 Q h x1
def bp_M_passes_53 (Q : Int32 → RS → Prop) (h : RS) (x2 : Int32) (x3 : Int32) (x4 : Int32) : Prop :=
  (¬ x4 = (4 : Int32) → isB (0 : Int32) ∧ Q (0 : Int32) h) ∧
  (x4 = (4 : Int32) → ((x2 &&& x3) = 0 → isB (0 : Int32) ∧ Q (0 : Int32) h) ∧
  (¬ (x2 &&& x3) = 0 → isB (1 : Int32) ∧ Q (1 : Int32) h))
def bp_M_passes_42 (Q : Int32 → RS → Prop) (h : RS) (x2 : Int32) (x3 : Int32) (x4 : Int32) : Prop :=
  (¬ x4 = (3 : Int32) → bp_M_passes_53 Q h x2 x3 x4) ∧
  (x4 = (3 : Int32) → (x3 ≤ x2 → isB (1 : Int32) ∧ Q (1 : Int32) h) ∧
  (¬ x3 ≤ x2 → bp_M_passes_53 Q h x2 x3 x4))
def bp_M_passes_31 (Q : Int32 → RS → Prop) (h : RS) (x2 : Int32) (x3 : Int32) (x4 : Int32) : Prop :=
  (¬ x4 = (2 : Int32) → bp_M_passes_42 Q h x2 x3 x4) ∧
  (x4 = (2 : Int32) → (x2 < x3 → isB (1 : Int32) ∧ Q (1 : Int32) h) ∧
  (¬ x2 < x3 → bp_M_passes_42 Q h x2 x3 x4))
def bp_M_passes_0 (Q : Int32 → RS → Prop) (h : RS) (x1 : Int32) (x2 : Int32) : Prop :=
  ∃ k1 : Nat, k1 < 32 ∧ x1 = nI k1 ∧ ∃ k2 : Nat, k2 < 32 ∧ x1 = nI k2 ∧ ((h 4 k2) = 0 → isB (1 : Int32) ∧ Q (1 : Int32) h) ∧
  (¬ (h 4 k2) = 0 → (¬ (h 4 k2) = (1 : Int32) → bp_M_passes_31 Q h x2 (h 5 k1) (h 4 k2)) ∧
  ((h 4 k2) = (1 : Int32) → (x2 = (h 5 k1) → isB (1 : Int32) ∧ Q (1 : Int32) h) ∧
  (¬ x2 = (h 5 k1) → bp_M_passes_31 Q h x2 (h 5 k1) (h 4 k2))))
def wp_M_passes (h : RS) (x1 : Int32) (x2 : Int32) (Q : Int32 → RS → Prop) : Prop := bp_M_passes_0 Q h x1 x2
def bp_M_guarded_218 (Q : Int32 → RS → Prop) (h : RS) (x2 : Int32) (x3 : Int32) (x4 : Int64) : Prop :=
  (¬ x2 = (5 : Int32) → isB (0 : Int32) ∧ Q (0 : Int32) h) ∧
  (x2 = (5 : Int32) → (x3 = 0 → isB (0 : Int32) ∧ Q (0 : Int32) h) ∧
  (¬ x3 = 0 → ¬ (Int32.toInt64 x3) = 0 ∧ (¬ (lg_cmp (x4 - x4 / (Int32.toInt64 x3) * (Int32.toInt64 x3)) (0 : Int64)) = 0 → isB (0 : Int32) ∧ Q (0 : Int32) h) ∧
  ((lg_cmp (x4 - x4 / (Int32.toInt64 x3) * (Int32.toInt64 x3)) (0 : Int64)) = 0 → isB (1 : Int32) ∧ Q (1 : Int32) h)))
def bp_M_guarded_205 (Q : Int32 → RS → Prop) (h : RS) (x2 : Int32) (x3 : Int32) (x4 : Int64) : Prop :=
  (¬ x2 = (4 : Int32) → bp_M_guarded_218 Q h x2 x3 x4) ∧
  (x2 = (4 : Int32) → ((lg_cmp x4 (Int32.toInt64 x3)) ≤ 0 → isB (1 : Int32) ∧ Q (1 : Int32) h) ∧
  (¬ (lg_cmp x4 (Int32.toInt64 x3)) ≤ 0 → bp_M_guarded_218 Q h x2 x3 x4))
def bp_M_guarded_195 (Q : Int32 → RS → Prop) (h : RS) (x2 : Int32) (x3 : Int32) (x4 : Int64) (x8 : Int32) : Prop :=
  (¬ x2 = (3 : Int32) → bp_M_guarded_205 Q h x2 x3 x4) ∧
  (x2 = (3 : Int32) → (¬ x8 = 0 → isB (1 : Int32) ∧ Q (1 : Int32) h) ∧
  (x8 = 0 → bp_M_guarded_205 Q h x2 x3 x4))
def bp_M_guarded_185 (Q : Int32 → RS → Prop) (h : RS) (x2 : Int32) (x3 : Int32) (x4 : Int64) (x7 : Int32) (x8 : Int32) : Prop :=
  (¬ x2 = (2 : Int32) → bp_M_guarded_195 Q h x2 x3 x4 x8) ∧
  (x2 = (2 : Int32) → (¬ x7 = 0 → isB (1 : Int32) ∧ Q (1 : Int32) h) ∧
  (x7 = 0 → bp_M_guarded_195 Q h x2 x3 x4 x8))
def bp_M_guarded_156 (K29 : RS → Int32 → Int32 → Int32 → Int64 → Int32 → Int32 → Int32 → Int32 → Prop) (K56 : RS → Int32 → Int32 → Int32 → Int64 → Int32 → Int32 → Int32 → Int32 → Int32 → Prop) (Q : Int32 → RS → Prop) (h : RS) (x1 : Int32) (x2 : Int32) (x3 : Int32) (x4 : Int64) (x6 : Int32) (x7 : Int32) (x9 : Int32) (x10 : Int32) : Prop :=
  K56 h x1 x2 x3 x4 x6 x7 (0 : Int32) x9 (x10 + 1)
def bp_M_guarded_128 (K29 : RS → Int32 → Int32 → Int32 → Int64 → Int32 → Int32 → Int32 → Int32 → Prop) (K56 : RS → Int32 → Int32 → Int32 → Int64 → Int32 → Int32 → Int32 → Int32 → Int32 → Prop) (Q : Int32 → RS → Prop) (h : RS) (x1 : Int32) (x2 : Int32) (x3 : Int32) (x4 : Int64) (x6 : Int32) (x8 : Int32) (x9 : Int32) (x10 : Int32) (y0 : Int32) : Prop :=
  (x8 = 0 → bp_M_guarded_156 K29 K56 Q h x1 x2 x3 x4 x6 y0 x9 x10) ∧
  (¬ x8 = 0 → ∃ k1 : Nat, k1 < 4 ∧ x10 = nI k1 ∧ ∃ k2 : Nat, k2 < 4 ∧ x9 = nI k2 ∧ ((h 23 k1) = (h 23 k2) → bp_M_guarded_156 K29 K56 Q h x1 x2 x3 x4 x6 y0 x9 x10) ∧
  (¬ (h 23 k1) = (h 23 k2) → K56 h x1 x2 x3 x4 x6 y0 (1 : Int32) x9 (x10 + 1)))
def bp_M_guarded_127 (K29 : RS → Int32 → Int32 → Int32 → Int64 → Int32 → Int32 → Int32 → Int32 → Prop) (K56 : RS → Int32 → Int32 → Int32 → Int64 → Int32 → Int32 → Int32 → Int32 → Int32 → Prop) (Q : Int32 → RS → Prop) (h : RS) (x1 : Int32) (x2 : Int32) (x3 : Int32) (x4 : Int64) (x6 : Int32) (x8 : Int32) (x9 : Int32) (x10 : Int32) : Prop :=
  bp_M_guarded_128 K29 K56 Q h x1 x2 x3 x4 x6 x8 x9 x10 (0 : Int32)
def bp_M_guarded_99 (K29 : RS → Int32 → Int32 → Int32 → Int64 → Int32 → Int32 → Int32 → Int32 → Prop) (K56 : RS → Int32 → Int32 → Int32 → Int64 → Int32 → Int32 → Int32 → Int32 → Int32 → Prop) (Q : Int32 → RS → Prop) (h : RS) (x1 : Int32) (x2 : Int32) (x3 : Int32) (x4 : Int64) (x7 : Int32) (x8 : Int32) (x9 : Int32) (x10 : Int32) (y0 : Int32) : Prop :=
  (x7 = 0 → bp_M_guarded_127 K29 K56 Q h x1 x2 x3 x4 y0 x8 x9 x10) ∧
  (¬ x7 = 0 → ∃ k3 : Nat, k3 < 4 ∧ x10 = nI k3 ∧ ∃ k4 : Nat, k4 < 4 ∧ x9 = nI k4 ∧ (¬ (h 23 k3) = (h 23 k4) → bp_M_guarded_127 K29 K56 Q h x1 x2 x3 x4 y0 x8 x9 x10) ∧
  ((h 23 k3) = (h 23 k4) → bp_M_guarded_128 K29 K56 Q h x1 x2 x3 x4 y0 x8 x9 x10 (1 : Int32)))
def bp_M_guarded_98 (K29 : RS → Int32 → Int32 → Int32 → Int64 → Int32 → Int32 → Int32 → Int32 → Prop) (K56 : RS → Int32 → Int32 → Int32 → Int64 → Int32 → Int32 → Int32 → Int32 → Int32 → Prop) (Q : Int32 → RS → Prop) (h : RS) (x1 : Int32) (x2 : Int32) (x3 : Int32) (x4 : Int64) (x7 : Int32) (x8 : Int32) (x9 : Int32) (x10 : Int32) : Prop :=
  bp_M_guarded_99 K29 K56 Q h x1 x2 x3 x4 x7 x8 x9 x10 (0 : Int32)
def bp_M_guarded_94 (K29 : RS → Int32 → Int32 → Int32 → Int64 → Int32 → Int32 → Int32 → Int32 → Prop) (K56 : RS → Int32 → Int32 → Int32 → Int64 → Int32 → Int32 → Int32 → Int32 → Int32 → Prop) (Q : Int32 → RS → Prop) (h : RS) (x1 : Int32) (x2 : Int32) (x3 : Int32) (x4 : Int64) (x7 : Int32) (x8 : Int32) (x9 : Int32) (x10 : Int32) : Prop :=
  bp_M_guarded_99 K29 K56 Q h x1 x2 x3 x4 x7 x8 x9 x10 (1 : Int32)
def bp_M_guarded_56 (K29 : RS → Int32 → Int32 → Int32 → Int64 → Int32 → Int32 → Int32 → Int32 → Prop) (K56 : RS → Int32 → Int32 → Int32 → Int64 → Int32 → Int32 → Int32 → Int32 → Int32 → Prop) (Q : Int32 → RS → Prop) (h : RS) (x1 : Int32) (x2 : Int32) (x3 : Int32) (x4 : Int64) (x6 : Int32) (x7 : Int32) (x8 : Int32) (x9 : Int32) (x10 : Int32) : Prop :=
  (x9 ≤ x10 → K29 h x1 x2 x3 x4 x6 x7 x8 (x9 + 1)) ∧
  (¬ x9 ≤ x10 → (x6 = 0 → bp_M_guarded_98 K29 K56 Q h x1 x2 x3 x4 x7 x8 x9 x10) ∧
  (¬ x6 = 0 → (x10 < (x9 - (1 : Int32)) → bp_M_guarded_94 K29 K56 Q h x1 x2 x3 x4 x7 x8 x9 x10) ∧
  (¬ x10 < (x9 - (1 : Int32)) → ∃ k5 : Nat, k5 < 4 ∧ x10 = nI k5 ∧ ∃ k6 : Nat, k6 < 4 ∧ x9 = nI k6 ∧ ((h 23 k6) ≤ (h 23 k5) → bp_M_guarded_98 K29 K56 Q h x1 x2 x3 x4 x7 x8 x9 x10) ∧
  (¬ (h 23 k6) ≤ (h 23 k5) → bp_M_guarded_94 K29 K56 Q h x1 x2 x3 x4 x7 x8 x9 x10))))
def wp_M_guarded_56 (K29 : RS → Int32 → Int32 → Int32 → Int64 → Int32 → Int32 → Int32 → Int32 → Prop) (Q : Int32 → RS → Prop) : Nat → RS → Int32 → Int32 → Int32 → Int64 → Int32 → Int32 → Int32 → Int32 → Int32 → Prop
  | 0 => fun _ _ _ _ _ _ _ _ _ _ => False
  | n + 1 => bp_M_guarded_56 K29 (wp_M_guarded_56 K29 Q n) Q
def bp_M_guarded_29 (K29 : RS → Int32 → Int32 → Int32 → Int64 → Int32 → Int32 → Int32 → Int32 → Prop) (Q : Int32 → RS → Prop) (h : RS) (x1 : Int32) (x2 : Int32) (x3 : Int32) (x4 : Int64) (x6 : Int32) (x7 : Int32) (x8 : Int32) (x9 : Int32) : Prop :=
  ∃ k7 : Nat, k7 < 8 ∧ x1 = nI k7 ∧ ((h 2 k7) ≤ x9 → (x2 = 0 → isB (1 : Int32) ∧ Q (1 : Int32) h) ∧
  (¬ x2 = 0 → (¬ x2 = (1 : Int32) → bp_M_guarded_185 Q h x2 x3 x4 x7 x8) ∧
  (x2 = (1 : Int32) → (¬ x6 = 0 → isB (1 : Int32) ∧ Q (1 : Int32) h) ∧
  (x6 = 0 → bp_M_guarded_185 Q h x2 x3 x4 x7 x8)))) ∧
  (¬ (h 2 k7) ≤ x9 → ∃ k8 : Nat, k8 < 4 ∧ x9 = nI k8 ∧ ∃ n9 : Nat, wp_M_guarded_56 K29 Q n9 h x1 x2 x3 (x4 + (Int32.toInt64 (h 23 k8))) x6 x7 x8 x9 (0 : Int32))
def wp_M_guarded_29 (Q : Int32 → RS → Prop) : Nat → RS → Int32 → Int32 → Int32 → Int64 → Int32 → Int32 → Int32 → Int32 → Prop
  | 0 => fun _ _ _ _ _ _ _ _ _ => False
  | n + 1 => bp_M_guarded_29 (wp_M_guarded_29 Q n) Q
def bp_M_guarded_0 (Q : Int32 → RS → Prop) (h : RS) (x1 : Int32) : Prop :=
  ∃ k10 : Nat, k10 < 8 ∧ x1 = nI k10 ∧ ∃ k11 : Nat, k11 < 8 ∧ x1 = nI k11 ∧ ∃ n12 : Nat, wp_M_guarded_29 Q n12 h x1 (h 6 k10) (h 7 k11) (0 : Int64) (1 : Int32) (1 : Int32) (1 : Int32) (0 : Int32)
def wp_M_guarded (h : RS) (x1 : Int32) (Q : Int32 → RS → Prop) : Prop := bp_M_guarded_0 Q h x1
def bp_M_chosen_0 (Q : Int32 → RS → Prop) (h : RS) (x1 : Int32) (x2 : Int32) : Prop :=
  ∃ k1 : Nat, k1 < 32 ∧ (((4 : Int32) * x1) + x2) = nI k1 ∧ ∃ k2 : Nat, k2 < 4 ∧ x2 = nI k2 ∧ ∃ k3 : Nat, k3 < 48 ∧ (((6 : Int32) * (h 3 k1)) + (h 22 k2)) = nI k3 ∧ Q (h 20 k3) h
def wp_M_chosen (h : RS) (x1 : Int32) (x2 : Int32) (Q : Int32 → RS → Prop) : Prop := bp_M_chosen_0 Q h x1 x2
def bp_M_matches_93 (K4 : RS → Int32 → Int32 → Int32 → Prop) (K67 : RS → Int32 → Int32 → Int32 → Int32 → Int32 → Prop) (Q : Int32 → RS → Prop) (h : RS) (x1 : Int32) (x3 : Int32) (x4 : Int32) (x5 : Int32) : Prop :=
  K67 h x1 (0 : Int32) x3 x4 (x5 + 1)
def bp_M_matches_67 (K4 : RS → Int32 → Int32 → Int32 → Prop) (K67 : RS → Int32 → Int32 → Int32 → Int32 → Int32 → Prop) (Q : Int32 → RS → Prop) (h : RS) (x1 : Int32) (x2 : Int32) (x3 : Int32) (x4 : Int32) (x5 : Int32) : Prop :=
  (x3 ≤ x5 → K4 h x1 x2 (x3 + 1)) ∧
  (¬ x3 ≤ x5 → (x2 = 0 → bp_M_matches_93 K4 K67 Q h x1 x3 x4 x5) ∧
  (¬ x2 = 0 → wp_M_chosen h x1 x5 (fun r1 h2 => (r1 = x4 → bp_M_matches_93 K4 K67 Q h2 x1 x3 x4 x5) ∧
  (¬ r1 = x4 → K67 h2 x1 (1 : Int32) x3 x4 (x5 + 1)))))
def wp_M_matches_67 (K4 : RS → Int32 → Int32 → Int32 → Prop) (Q : Int32 → RS → Prop) : Nat → RS → Int32 → Int32 → Int32 → Int32 → Int32 → Prop
  | 0 => fun _ _ _ _ _ _ => False
  | n + 1 => bp_M_matches_67 K4 (wp_M_matches_67 K4 Q n) Q
def bp_M_matches_63 (K4 : RS → Int32 → Int32 → Int32 → Prop) (Q : Int32 → RS → Prop) (h : RS) (x1 : Int32) (x3 : Int32) (x4 : Int32) (y0 : Int32) : Prop :=
  ∃ n3 : Nat, wp_M_matches_67 K4 Q n3 h x1 y0 x3 x4 (0 : Int32)
def bp_M_matches_62 (K4 : RS → Int32 → Int32 → Int32 → Prop) (Q : Int32 → RS → Prop) (h : RS) (x1 : Int32) (x3 : Int32) (x4 : Int32) : Prop :=
  bp_M_matches_63 K4 Q h x1 x3 x4 (0 : Int32)
def bp_M_matches_4 (K4 : RS → Int32 → Int32 → Int32 → Prop) (Q : Int32 → RS → Prop) (h : RS) (x1 : Int32) (x2 : Int32) (x3 : Int32) : Prop :=
  ∃ k4 : Nat, k4 < 8 ∧ x1 = nI k4 ∧ ((h 2 k4) ≤ x3 → (x2 = 0 → isB (0 : Int32) ∧ Q (0 : Int32) h) ∧
  (¬ x2 = 0 → wp_M_guarded h x1 (fun r5 h6 => (r5 = 0 → isB (0 : Int32) ∧ Q (0 : Int32) h6) ∧
  (¬ r5 = 0 → isB (1 : Int32) ∧ Q (1 : Int32) h6)))) ∧
  (¬ (h 2 k4) ≤ x3 → wp_M_chosen h x1 x3 (fun r7 h8 => ∃ k9 : Nat, k9 < 300 ∧ r7 = nI k9 ∧ ∃ k10 : Nat, k10 < 4 ∧ x3 = nI k10 ∧ ∀ h11 : RS, h11 = up2 h8 23 k10 (h8 15 k9) → (x2 = 0 → bp_M_matches_62 K4 Q h11 x1 x3 r7) ∧
  (¬ x2 = 0 → ∃ k12 : Nat, k12 < 300 ∧ r7 = nI k12 ∧ wp_M_passes h11 (((4 : Int32) * x1) + x3) (h11 15 k12) (fun r13 h14 => (r13 = 0 → bp_M_matches_62 K4 Q h14 x1 x3 r7) ∧
  (¬ r13 = 0 → bp_M_matches_63 K4 Q h14 x1 x3 r7 (1 : Int32))))))
def wp_M_matches_4 (Q : Int32 → RS → Prop) : Nat → RS → Int32 → Int32 → Int32 → Prop
  | 0 => fun _ _ _ _ => False
  | n + 1 => bp_M_matches_4 (wp_M_matches_4 Q n) Q
def bp_M_matches_0 (Q : Int32 → RS → Prop) (h : RS) (x1 : Int32) : Prop :=
  ∃ n15 : Nat, wp_M_matches_4 Q n15 h x1 (1 : Int32) (0 : Int32)
def wp_M_matches (h : RS) (x1 : Int32) (Q : Int32 → RS → Prop) : Prop := bp_M_matches_0 Q h x1
def bp_M_find_58 (K40 : RS → Int32 → Int32 → Int32 → Prop) (K58 : RS → Int32 → Int32 → Int32 → Int32 → Int32 → Prop) (Q : Int32 → RS → Prop) (h : RS) (x1 : Int32) (x2 : Int32) (x3 : Int32) (x4 : Int32) (x5 : Int32) : Prop :=
  (x5 < 0 → wp_M_matches h x1 (fun r1 h2 => (r1 = 0 → K40 h2 x1 x2 (x3 + 1)) ∧
  (¬ r1 = 0 → isB (1 : Int32) ∧ Q (1 : Int32) h2))) ∧
  (¬ x5 < 0 → ∃ k3 : Nat, k3 < 32 ∧ (((4 : Int32) * x1) + x5) = nI k3 ∧ ∃ k4 : Nat, k4 < 8 ∧ (h 3 k3) = nI k4 ∧ ¬ (h 21 k4) = 0 ∧ ∃ k5 : Nat, k5 < 4 ∧ x5 = nI k5 ∧ ∀ h6 : RS, h6 = up2 h 22 k5 (x4 - x4 / (h 21 k4) * (h 21 k4)) → ¬ (h 21 k4) = 0 ∧ K58 h6 x1 x2 x3 (x4 / (h 21 k4)) (x5 + (-1)))
def wp_M_find_58 (K40 : RS → Int32 → Int32 → Int32 → Prop) (Q : Int32 → RS → Prop) : Nat → RS → Int32 → Int32 → Int32 → Int32 → Int32 → Prop
  | 0 => fun _ _ _ _ _ _ => False
  | n + 1 => bp_M_find_58 K40 (wp_M_find_58 K40 Q n) Q
def bp_M_find_40 (K40 : RS → Int32 → Int32 → Int32 → Prop) (Q : Int32 → RS → Prop) (h : RS) (x1 : Int32) (x2 : Int32) (x3 : Int32) : Prop :=
  (x2 ≤ x3 → isB (0 : Int32) ∧ Q (0 : Int32) h) ∧
  (¬ x2 ≤ x3 → ∃ k7 : Nat, k7 < 8 ∧ x1 = nI k7 ∧ ∃ n8 : Nat, wp_M_find_58 K40 Q n8 h x1 x2 x3 x3 ((h 2 k7) - (1 : Int32)))
def wp_M_find_40 (Q : Int32 → RS → Prop) : Nat → RS → Int32 → Int32 → Int32 → Prop
  | 0 => fun _ _ _ _ => False
  | n + 1 => bp_M_find_40 (wp_M_find_40 Q n) Q
def bp_M_find_4 (K4 : RS → Int32 → Int32 → Int32 → Prop) (Q : Int32 → RS → Prop) (h : RS) (x1 : Int32) (x2 : Int32) (x3 : Int32) : Prop :=
  ∃ k9 : Nat, k9 < 8 ∧ x1 = nI k9 ∧ ((h 2 k9) ≤ x3 → ∃ n10 : Nat, wp_M_find_40 Q n10 h x1 x2 (0 : Int32)) ∧
  (¬ (h 2 k9) ≤ x3 → ∃ k11 : Nat, k11 < 32 ∧ (((4 : Int32) * x1) + x3) = nI k11 ∧ ∃ k12 : Nat, k12 < 8 ∧ (h 3 k11) = nI k12 ∧ K4 h x1 (x2 * (h 21 k12)) (x3 + 1))
def wp_M_find_4 (Q : Int32 → RS → Prop) : Nat → RS → Int32 → Int32 → Int32 → Prop
  | 0 => fun _ _ _ _ => False
  | n + 1 => bp_M_find_4 (wp_M_find_4 Q n) Q
def bp_M_find_0 (Q : Int32 → RS → Prop) (h : RS) (x1 : Int32) : Prop :=
  ∃ n13 : Nat, wp_M_find_4 Q n13 h x1 (1 : Int32) (0 : Int32)
def wp_M_find (h : RS) (x1 : Int32) (Q : Int32 → RS → Prop) : Prop := bp_M_find_0 Q h x1
def bp_M_room_156 (K7 : RS → Int32 → Int32 → Int32 → Int32 → Prop) (Q : Int32 → RS → Prop) (h : RS) (x1 : Int32) (x2 : Int32) (x4 : Int32) : Prop :=
  K7 h x1 x2 (0 : Int32) (x4 + 1)
def bp_M_room_120 (K7 : RS → Int32 → Int32 → Int32 → Int32 → Prop) (K28 : RS → Int32 → Int32 → Int32 → Int32 → Int32 → Int32 → Prop) (Q : Int32 → RS → Prop) (h : RS) (x1 : Int32) (x2 : Int32) (x3 : Int32) (x4 : Int32) (x6 : Int32) (x7 : Int32) (y0 : Int32) : Prop :=
  (x7 = 0 → K28 h x1 x2 x3 x4 y0 (x6 + 1)) ∧
  (¬ x7 = 0 → K28 h x1 (x2 + (1 : Int32)) x3 x4 y0 (x6 + 1))
def bp_M_room_104 (K7 : RS → Int32 → Int32 → Int32 → Int32 → Prop) (K28 : RS → Int32 → Int32 → Int32 → Int32 → Int32 → Int32 → Prop) (Q : Int32 → RS → Prop) (h : RS) (x1 : Int32) (x2 : Int32) (x3 : Int32) (x4 : Int32) (x5 : Int32) (x6 : Int32) (y0 : Int32) : Prop :=
  (y0 = 0 → bp_M_room_120 K7 K28 Q h x1 x2 x3 x4 x6 y0 x5) ∧
  (¬ y0 = 0 → bp_M_room_120 K7 K28 Q h x1 x2 x3 x4 x6 y0 (x5 + (1 : Int32)))
def bp_M_room_103 (K7 : RS → Int32 → Int32 → Int32 → Int32 → Prop) (K28 : RS → Int32 → Int32 → Int32 → Int32 → Int32 → Int32 → Prop) (Q : Int32 → RS → Prop) (h : RS) (x1 : Int32) (x2 : Int32) (x3 : Int32) (x4 : Int32) (x5 : Int32) (x6 : Int32) : Prop :=
  bp_M_room_104 K7 K28 Q h x1 x2 x3 x4 x5 x6 (0 : Int32)
def bp_M_room_70 (K7 : RS → Int32 → Int32 → Int32 → Int32 → Prop) (K28 : RS → Int32 → Int32 → Int32 → Int32 → Int32 → Int32 → Prop) (Q : Int32 → RS → Prop) (h : RS) (x1 : Int32) (x2 : Int32) (x3 : Int32) (x4 : Int32) (x6 : Int32) (y0 : Int32) : Prop :=
  ∃ k1 : Nat, k1 < 8 ∧ x1 = nI k1 ∧ ((h 8 k1) ≤ x6 → bp_M_room_103 K7 K28 Q h x1 x2 x3 x4 y0 x6) ∧
  (¬ (h 8 k1) ≤ x6 → ∃ k2 : Nat, k2 < 32 ∧ (((4 : Int32) * x1) + x6) = nI k2 ∧ (¬ (h 9 k2) = x4 → bp_M_room_103 K7 K28 Q h x1 x2 x3 x4 y0 x6) ∧
  ((h 9 k2) = x4 → bp_M_room_104 K7 K28 Q h x1 x2 x3 x4 y0 x6 (1 : Int32)))
def bp_M_room_68 (K7 : RS → Int32 → Int32 → Int32 → Int32 → Prop) (K28 : RS → Int32 → Int32 → Int32 → Int32 → Int32 → Int32 → Prop) (Q : Int32 → RS → Prop) (h : RS) (x1 : Int32) (x2 : Int32) (x3 : Int32) (x4 : Int32) (x5 : Int32) (x6 : Int32) : Prop :=
  bp_M_room_70 K7 K28 Q h x1 x2 x3 x4 x6 x5
def bp_M_room_28 (K7 : RS → Int32 → Int32 → Int32 → Int32 → Prop) (K28 : RS → Int32 → Int32 → Int32 → Int32 → Int32 → Int32 → Prop) (Q : Int32 → RS → Prop) (h : RS) (x1 : Int32) (x2 : Int32) (x3 : Int32) (x4 : Int32) (x5 : Int32) (x6 : Int32) : Prop :=
  ((4 : Int32) ≤ x6 → (x3 = 0 → bp_M_room_156 K7 Q h x1 x2 x4) ∧
  (¬ x3 = 0 → ((6 : Int32) < x5 → bp_M_room_156 K7 Q h x1 x2 x4) ∧
  (¬ (6 : Int32) < x5 → K7 h x1 x2 (1 : Int32) (x4 + 1)))) ∧
  (¬ (4 : Int32) ≤ x6 → ∃ k3 : Nat, k3 < 8 ∧ x1 = nI k3 ∧ ((h 2 k3) ≤ x6 → bp_M_room_68 K7 K28 Q h x1 x2 x3 x4 x5 x6) ∧
  (¬ (h 2 k3) ≤ x6 → ∃ k4 : Nat, k4 < 32 ∧ (((4 : Int32) * x1) + x6) = nI k4 ∧ (¬ (h 3 k4) = x4 → bp_M_room_68 K7 K28 Q h x1 x2 x3 x4 x5 x6) ∧
  ((h 3 k4) = x4 → bp_M_room_70 K7 K28 Q h x1 x2 x3 x4 x6 (x5 - (1 : Int32)))))
def wp_M_room_28 (K7 : RS → Int32 → Int32 → Int32 → Int32 → Prop) (Q : Int32 → RS → Prop) : Nat → RS → Int32 → Int32 → Int32 → Int32 → Int32 → Int32 → Prop
  | 0 => fun _ _ _ _ _ _ _ => False
  | n + 1 => bp_M_room_28 K7 (wp_M_room_28 K7 Q n) Q
def bp_M_room_7 (K7 : RS → Int32 → Int32 → Int32 → Int32 → Prop) (Q : Int32 → RS → Prop) (h : RS) (x1 : Int32) (x2 : Int32) (x3 : Int32) (x4 : Int32) : Prop :=
  ((h 0 0) ≤ x4 → (x3 = 0 → isB (0 : Int32) ∧ Q (0 : Int32) h) ∧
  (¬ x3 = 0 → ((300 : Int32) < ((h 0 16) + x2) → isB (0 : Int32) ∧ Q (0 : Int32) h) ∧
  (¬ (300 : Int32) < ((h 0 16) + x2) → isB (1 : Int32) ∧ Q (1 : Int32) h))) ∧
  (¬ (h 0 0) ≤ x4 → ∃ k5 : Nat, k5 < 8 ∧ x4 = nI k5 ∧ ∃ n6 : Nat, wp_M_room_28 K7 Q n6 h x1 x2 x3 x4 (h 21 k5) (0 : Int32))
def wp_M_room_7 (Q : Int32 → RS → Prop) : Nat → RS → Int32 → Int32 → Int32 → Int32 → Prop
  | 0 => fun _ _ _ _ _ => False
  | n + 1 => bp_M_room_7 (wp_M_room_7 Q n) Q
def bp_M_room_0 (Q : Int32 → RS → Prop) (h : RS) (x1 : Int32) : Prop :=
  ∃ n7 : Nat, wp_M_room_7 Q n7 h x1 (0 : Int32) (1 : Int32) (0 : Int32)
def wp_M_room (h : RS) (x1 : Int32) (Q : Int32 → RS → Prop) : Prop := bp_M_room_0 Q h x1
def bp_M_enabled_47 (K8 : RS → Int32 → Int32 → Prop) (Q : Int32 → RS → Prop) (h : RS) (x1 : Int32) (x2 : Int32) : Prop :=
  K8 h x1 (x2 + 1)
def bp_M_enabled_8 (K8 : RS → Int32 → Int32 → Prop) (Q : Int32 → RS → Prop) (h : RS) (x1 : Int32) (x2 : Int32) : Prop :=
  ((h 0 2) ≤ x2 → Q x1 h) ∧
  (¬ (h 0 2) ≤ x2 → ((h 0 15) = 0 → Q x1 h) ∧
  (¬ (h 0 15) = 0 → wp_M_room h x2 (fun r1 h2 => (r1 = 0 → bp_M_enabled_47 K8 Q h2 x1 x2) ∧
  (¬ r1 = 0 → wp_M_find h2 x2 (fun r3 h4 => (r3 = 0 → bp_M_enabled_47 K8 Q h4 x1 x2) ∧
  (¬ r3 = 0 → K8 h4 (x1 + ((1 : Int32) <<< (x2 &&& 31))) (x2 + 1)))))))
def wp_M_enabled_8 (Q : Int32 → RS → Prop) : Nat → RS → Int32 → Int32 → Prop
  | 0 => fun _ _ _ => False
  | n + 1 => bp_M_enabled_8 (wp_M_enabled_8 Q n) Q
def bp_M_enabled_0 (Q : Int32 → RS → Prop) (h : RS) : Prop :=
  wp_M_gather h (fun h5 => ∃ n6 : Nat, wp_M_enabled_8 Q n6 h5 (0 : Int32) (0 : Int32))
def wp_M_enabled (h : RS) (Q : Int32 → RS → Prop) : Prop := bp_M_enabled_0 Q h
def bp_M_next_32 (K32 : RS → Int32 → Int32 → Int32 → Prop) (Q : Int32 → RS → Prop) (h : RS) (x1 : Int32) (x2 : Int32) (x3 : Int32) : Prop :=
  ((h 0 2) ≤ x3 → Q (-1 : Int32) h) ∧
  (¬ (h 0 2) ≤ x3 → ¬ (h 0 2) = 0 ∧ (¬ ((x1 >>> (((x2 + x3) - (x2 + x3) / (h 0 2) * (h 0 2)) &&& 31)) &&& (1 : Int32)) = (1 : Int32) → K32 h x1 x2 (x3 + 1)) ∧
  (((x1 >>> (((x2 + x3) - (x2 + x3) / (h 0 2) * (h 0 2)) &&& 31)) &&& (1 : Int32)) = (1 : Int32) → Q ((x2 + x3) - (x2 + x3) / (h 0 2) * (h 0 2)) h))
def wp_M_next_32 (Q : Int32 → RS → Prop) : Nat → RS → Int32 → Int32 → Int32 → Prop
  | 0 => fun _ _ _ _ => False
  | n + 1 => bp_M_next_32 (wp_M_next_32 Q n) Q
def bp_M_next_29 (Q : Int32 → RS → Prop) (h : RS) (x1 : Int32) (y0 : Int32) : Prop :=
  ∃ n1 : Nat, wp_M_next_32 Q n1 h x1 y0 (0 : Int32)
def bp_M_next_0 (Q : Int32 → RS → Prop) (h : RS) : Prop :=
  wp_M_enabled h (fun r2 h3 => (¬ (h3 0 22) = 0 → ∃ k4 : Nat, k4 < 300 ∧ ((h3 0 22) - (1 : Int32)) = nI k4 ∧ bp_M_next_29 Q h3 r2 ((h3 19 k4) + (1 : Int32))) ∧
  ((h3 0 22) = 0 → bp_M_next_29 Q h3 r2 (0 : Int32)))
def wp_M_next (h : RS) (Q : Int32 → RS → Prop) : Prop := bp_M_next_0 Q h
def bp_M_taken_0 (Q : Int32 → RS → Prop) (h : RS) (x1 : Int32) : Prop :=
  wp_M_next h (fun r1 h2 => (r1 < 0 → Q (-1 : Int32) h2) ∧
  (¬ r1 < 0 → wp_M_hasPart h2 r1 x1 (fun r3 h4 => (¬ r3 = 0 → wp_M_find h4 r1 (fun r5 h6 => wp_M_chosen h6 r1 x1 (fun r7 h8 => Q r7 h8))) ∧
  (r3 = 0 → Q (-1 : Int32) h4))))
def wp_M_taken (h : RS) (x1 : Int32) (Q : Int32 → RS → Prop) : Prop := bp_M_taken_0 Q h x1
def bp_M_result_21 (K21 : RS → Int32 → Int32 → Int32 → Int32 → Int32 → Int32 → Prop) (Q : Int32 → RS → Prop) (h : RS) (x1 : Int32) (x2 : Int32) (x3 : Int32) (x4 : Int32) (x5 : Int32) (x6 : Int32) : Prop :=
  ∃ k1 : Nat, k1 < 8 ∧ x1 = nI k1 ∧ ((h 2 k1) ≤ x6 → ∃ k2 : Nat, k2 < 32 ∧ x2 = nI k2 ∧ (¬ (h 11 k2) = (1 : Int32) → ∃ k3 : Nat, k3 < 32 ∧ x2 = nI k3 ∧ (¬ (h 11 k3) = (2 : Int32) → ∃ k4 : Nat, k4 < 32 ∧ x2 = nI k4 ∧ (¬ (h 11 k4) = 0 → ∃ k5 : Nat, k5 < 32 ∧ x2 = nI k5 ∧ (¬ (h 11 k5) = (3 : Int32) → Q x5 h) ∧
  ((h 11 k5) = (3 : Int32) → Q (x4 + x3) h)) ∧
  ((h 11 k4) = 0 → Q x3 h)) ∧
  ((h 11 k3) = (2 : Int32) → ∃ k6 : Nat, k6 < 32 ∧ x2 = nI k6 ∧ ∃ k7 : Nat, k7 < 4 ∧ (h 12 k6) = nI k7 ∧ Q ((h 23 k7) * x3) h)) ∧
  ((h 11 k2) = (1 : Int32) → ∃ k8 : Nat, k8 < 32 ∧ x2 = nI k8 ∧ ∃ k9 : Nat, k9 < 4 ∧ (h 12 k8) = nI k9 ∧ Q ((h 23 k9) + x3) h)) ∧
  (¬ (h 2 k1) ≤ x6 → ∃ k10 : Nat, k10 < 4 ∧ x6 = nI k10 ∧ ∃ k11 : Nat, k11 < 4 ∧ x6 = nI k11 ∧ ((h 23 k11) ≤ x5 → K21 h x1 x2 x3 (x4 + (h 23 k10)) x5 (x6 + 1)) ∧
  (¬ (h 23 k11) ≤ x5 → ∃ k12 : Nat, k12 < 4 ∧ x6 = nI k12 ∧ K21 h x1 x2 x3 (x4 + (h 23 k10)) (h 23 k12) (x6 + 1)))
def wp_M_result_21 (Q : Int32 → RS → Prop) : Nat → RS → Int32 → Int32 → Int32 → Int32 → Int32 → Int32 → Prop
  | 0 => fun _ _ _ _ _ _ _ => False
  | n + 1 => bp_M_result_21 (wp_M_result_21 Q n) Q
def bp_M_result_0 (Q : Int32 → RS → Prop) (h : RS) (x1 : Int32) (x2 : Int32) : Prop :=
  ∃ k13 : Nat, k13 < 32 ∧ x2 = nI k13 ∧ ∃ k14 : Nat, k14 < 4 ∧ (0 : Int32) = nI k14 ∧ ∃ n15 : Nat, wp_M_result_21 Q n15 h x1 x2 (h 13 k13) (0 : Int32) (h 23 k14) (0 : Int32)
def wp_M_result (h : RS) (x1 : Int32) (x2 : Int32) (Q : Int32 → RS → Prop) : Prop := bp_M_result_0 Q h x1 x2
def bp_M_fire_50 (K50 : RS → Int32 → Int32 → Prop) (Q : RS → Prop) (h : RS) (x1 : Int32) (x2 : Int32) : Prop :=
  ∃ k1 : Nat, k1 < 8 ∧ x1 = nI k1 ∧ ((h 8 k1) ≤ x2 → ∃ k2 : Nat, k2 < 300 ∧ (h 0 22) = nI k2 ∧ ∀ h3 : RS, h3 = up2 h 19 k2 x1 → ∀ h4 : RS, h4 = up2 h3 0 22 ((h3 0 22) + (1 : Int32)) → Q h4) ∧
  (¬ (h 8 k1) ≤ x2 → wp_M_result h x1 (((4 : Int32) * x1) + x2) (fun r5 h6 => ∃ k7 : Nat, k7 < 32 ∧ (((4 : Int32) * x1) + x2) = nI k7 ∧ ((h6 9 k7) < 0 → ∃ k8 : Nat, k8 < 32 ∧ (((4 : Int32) * x1) + x2) = nI k8 ∧ wp_M_chosen h6 x1 (h6 10 k8) (fun r9 h10 => ∃ k11 : Nat, k11 < 300 ∧ r9 = nI k11 ∧ ∀ h12 : RS, h12 = up2 h10 18 k11 r5 → K50 h12 x1 (x2 + 1))) ∧
  (¬ (h6 9 k7) < 0 → ∃ k13 : Nat, k13 < 32 ∧ (((4 : Int32) * x1) + x2) = nI k13 ∧ wp_M_make h6 (h6 9 k13) r5 (fun r14 h15 => K50 h15 x1 (x2 + 1)))))
def wp_M_fire_50 (Q : RS → Prop) : Nat → RS → Int32 → Int32 → Prop
  | 0 => fun _ _ _ => False
  | n + 1 => bp_M_fire_50 (wp_M_fire_50 Q n) Q
def bp_M_fire_8 (K8 : RS → Int32 → Int32 → Prop) (Q : RS → Prop) (h : RS) (x1 : Int32) (x2 : Int32) : Prop :=
  ∃ k16 : Nat, k16 < 8 ∧ x1 = nI k16 ∧ ((h 2 k16) ≤ x2 → ∃ n17 : Nat, wp_M_fire_50 Q n17 h x1 (0 : Int32)) ∧
  (¬ (h 2 k16) ≤ x2 → wp_M_chosen h x1 x2 (fun r18 h19 => ∃ k20 : Nat, k20 < 300 ∧ r18 = nI k20 ∧ ∀ h21 : RS, h21 = up2 h19 16 k20 (2 : Int32) → ∃ k22 : Nat, k22 < 300 ∧ r18 = nI k22 ∧ ∀ h23 : RS, h23 = up2 h21 17 k22 (h21 0 22) → K8 h23 x1 (x2 + 1)))
def wp_M_fire_8 (Q : RS → Prop) : Nat → RS → Int32 → Int32 → Prop
  | 0 => fun _ _ _ => False
  | n + 1 => bp_M_fire_8 (wp_M_fire_8 Q n) Q
def bp_M_fire_0 (Q : RS → Prop) (h : RS) (x1 : Int32) : Prop :=
  wp_M_find h x1 (fun r24 h25 => ∃ n26 : Nat, wp_M_fire_8 Q n26 h25 x1 (0 : Int32))
def wp_M_fire (h : RS) (x1 : Int32) (Q : RS → Prop) : Prop := bp_M_fire_0 Q h x1
def bp_M_react_20 (K20 : RS → Int32 → Int32 → Prop) (Q : Int32 → RS → Prop) (h : RS) (x1 : Int32) (x2 : Int32) : Prop :=
  (x1 ≤ x2 → Q x1 h) ∧
  (¬ x1 ≤ x2 → wp_M_next h (fun r1 h2 => (0 ≤ r1 → wp_M_fire h2 r1 (fun h3 => K20 h3 x1 (x2 + 1))) ∧
  (¬ 0 ≤ r1 → Q x2 h2)))
def wp_M_react_20 (Q : Int32 → RS → Prop) : Nat → RS → Int32 → Int32 → Prop
  | 0 => fun _ _ _ => False
  | n + 1 => bp_M_react_20 (wp_M_react_20 Q n) Q
def bp_M_react_0 (Q : Int32 → RS → Prop) (h : RS) (x1 : Int32) : Prop :=
  ((h 0 15) = 0 → Q (-1 : Int32) h) ∧
  (¬ (h 0 15) = 0 → (x1 < 0 → Q (-1 : Int32) h) ∧
  (¬ x1 < 0 → (x1 ≤ (5 : Int32) → ∃ n4 : Nat, wp_M_react_20 Q n4 h x1 (0 : Int32)) ∧
  (¬ x1 ≤ (5 : Int32) → Q (-1 : Int32) h)))
def wp_M_react (h : RS) (x1 : Int32) (Q : Int32 → RS → Prop) : Prop := bp_M_react_0 Q h x1
def bp_M_pendingAt_0 (Q : Int32 → RS → Prop) (h : RS) (x1 : Int32) (x2 : Int32) : Prop :=
  wp_M_gather h (fun h1 => wp_M_isChannel h1 x1 (fun r2 h3 => (r2 = 0 → Q (-1 : Int32) h3) ∧
  (¬ r2 = 0 → (x2 < 0 → Q (-1 : Int32) h3) ∧
  (¬ x2 < 0 → ∃ k4 : Nat, k4 < 8 ∧ x1 = nI k4 ∧ ((h3 21 k4) ≤ x2 → Q (-1 : Int32) h3) ∧
  (¬ (h3 21 k4) ≤ x2 → ∃ k5 : Nat, k5 < 48 ∧ (((6 : Int32) * x1) + x2) = nI k5 ∧ Q (h3 20 k5) h3)))))
def wp_M_pendingAt (h : RS) (x1 : Int32) (x2 : Int32) (Q : Int32 → RS → Prop) : Prop := bp_M_pendingAt_0 Q h x1 x2
def bp_M_value_0 (Q : Int32 → RS → Prop) (h : RS) (x1 : Int32) : Prop :=
  wp_M_isMessage h x1 (fun r1 h2 => (r1 = 0 → Q (0 : Int32) h2) ∧
  (¬ r1 = 0 → ∃ k3 : Nat, k3 < 300 ∧ x1 = nI k3 ∧ Q (h2 15 k3) h2))
def wp_M_value (h : RS) (x1 : Int32) (Q : Int32 → RS → Prop) : Prop := bp_M_value_0 Q h x1
def bp_M_state_0 (Q : Int32 → RS → Prop) (h : RS) (x1 : Int32) : Prop :=
  wp_M_isMessage h x1 (fun r1 h2 => (r1 = 0 → Q (0 : Int32) h2) ∧
  (¬ r1 = 0 → ∃ k3 : Nat, k3 < 300 ∧ x1 = nI k3 ∧ Q (h2 16 k3) h2))
def wp_M_state (h : RS) (x1 : Int32) (Q : Int32 → RS → Prop) : Prop := bp_M_state_0 Q h x1
def bp_M_consumer_0 (Q : Int32 → RS → Prop) (h : RS) (x1 : Int32) : Prop :=
  wp_M_isMessage h x1 (fun r1 h2 => (r1 = 0 → Q (-1 : Int32) h2) ∧
  (¬ r1 = 0 → ∃ k3 : Nat, k3 < 300 ∧ x1 = nI k3 ∧ Q (h2 17 k3) h2))
def wp_M_consumer (h : RS) (x1 : Int32) (Q : Int32 → RS → Prop) : Prop := bp_M_consumer_0 Q h x1
def bp_M_answer_0 (Q : Int32 → RS → Prop) (h : RS) (x1 : Int32) : Prop :=
  wp_M_isMessage h x1 (fun r1 h2 => (r1 = 0 → Q (0 : Int32) h2) ∧
  (¬ r1 = 0 → ∃ k3 : Nat, k3 < 300 ∧ x1 = nI k3 ∧ Q (h2 18 k3) h2))
def wp_M_answer (h : RS) (x1 : Int32) (Q : Int32 → RS → Prop) : Prop := bp_M_answer_0 Q h x1
def bp_M_fired_0 (Q : Int32 → RS → Prop) (h : RS) (x1 : Int32) : Prop :=
  (x1 < 0 → Q (-1 : Int32) h) ∧
  (¬ x1 < 0 → ((h 0 22) ≤ x1 → Q (-1 : Int32) h) ∧
  (¬ (h 0 22) ≤ x1 → ∃ k1 : Nat, k1 < 300 ∧ x1 = nI k1 ∧ Q (h 19 k1) h))
def wp_M_fired (h : RS) (x1 : Int32) (Q : Int32 → RS → Prop) : Prop := bp_M_fired_0 Q h x1
