/-! most and rows -/
theorem lt6 {x : Int32} (h : ¬ (5 : Int32) < x) : x < (6 : Int32) := by
  rw [Int32.lt_iff_toInt_lt] at h ⊢
  have e5 : (5 : Int32).toInt = 5 := by decide
  have e6 : (6 : Int32).toInt = 6 := by decide
  omega
theorem nlt6 {x : Int32} (h : (5 : Int32) < x) : ¬ x < (6 : Int32) := by
  rw [Int32.lt_iff_toInt_lt] at h ⊢
  have e5 : (5 : Int32).toInt = 5 := by decide
  have e6 : (6 : Int32).toInt = 6 := by decide
  omega
theorem le5 {x : Int32} (h : ¬ (5 : Int32) < x) : x ≤ (5 : Int32) := Int32.not_lt.mp h
theorem nle5 {x : Int32} (h : (5 : Int32) < x) : ¬ x ≤ (5 : Int32) := fun z => Int32.not_lt.mpr z h
theorem x_neg1 {x : Int32} (h : x < 0) (h3 : ¬ x < (-1 : Int32)) : x = (-1 : Int32) := by
  rw [Int32.lt_iff_toInt_lt] at h h3
  have e0 : (0 : Int32).toInt = 0 := by decide
  have e1 : (-1 : Int32).toInt = -1 := by decide
  rw [e0] at h
  rw [e1] at h3
  exact Int32.toInt_inj.mp ((show x.toInt = -1 by omega).trans e1.symm)
theorem ones_nI {S : Nat} (hS : S ≤ 12) : ((1 : Int32) <<< (nI S &&& 31)) - (1 : Int32) = nI (2 ^ S - 1) := by
  rw [one_shl (by omega), show (1 : Int32) = nI 1 from rfl, pk_sub (Nat.pow_pos (by omega))]
theorem ones_lt {S : Nat} (hS : S ≤ 12) : 2 ^ S - 1 < 2 ^ 12 := by
  have : 2 ^ S ≤ 2 ^ 12 := Nat.pow_le_pow_right (by omega) hS
  omega
theorem nev_ones {S U : Nat} (hS : S ≤ 12) : nev S U (andn (2 ^ S - 1) U) := by
  refine ⟨andn_lt (ones_lt hS), fun i hi => ?_⟩
  rw [andn_bit (by omega), Nat.testBit_two_pow_sub_one]
theorem nev_0 {S : Nat} (hS : S ≤ 12) : nev S 0 (2 ^ S - 1) := by
  refine ⟨ones_lt hS, fun i hi => ?_⟩
  rw [Nat.testBit_two_pow_sub_one]
  simp
theorem all_or (c : MC) (m : MM) : wlk m ||| (allF c m).1 = (allF c m).1 := by
  apply Nat.eq_of_testBit_eq
  intro i
  rw [Nat.testBit_or]
  cases h : (wlk m).testBit i with
  | false => rfl
  | true => rw [all_now i h]; rfl
set_option maxHeartbeats 4000000 in
theorem sim_most (N : Nat) (hN : 1000 ≤ N) (c_traced : Int64) (c_text_length c_text_place c_text_start c_text_token c_text_value : Int32) (c_text_bytes : Nat → Int32) (c_map_corners c_map_streets c_map_leaders : Int32) (c_map_first c_map_second c_map_hours c_map_home c_map_feet : Nat → Int32) (c_map_far : Nat → Nat → Int32) (c_draft_corners c_draft_streets c_draft_leaders : Int32) (c_draft_first c_draft_second c_draft_hours c_draft_home c_draft_feet : Nat → Int32) (c_draft_far : Nat → Nat → Int32) (c_march_at c_march_hour c_march_fines c_march_led c_march_taken c_march_shut c_history_size : Int32) (c_history_past : Nat → Nat → Int32) (c_images0_kept c_images0_march_at c_images0_march_hour c_images0_march_fines c_images0_march_led c_images0_march_taken c_images0_march_shut c_images0_history_size : Int32) (c_images0_history_past : Nat → Nat → Int32) (c_images1_kept c_images1_march_at c_images1_march_hour c_images1_march_fines c_images1_march_led c_images1_march_taken c_images1_march_shut c_images1_history_size : Int32) (c_images1_history_past : Nat → Nat → Int32) (c_row_size c_row_homes : Int32) (c_row_told c_row_leading c_row_ended : Nat → Int32) (c_row_march_at c_row_march_hour c_row_march_fines c_row_march_led c_row_march_taken c_row_march_shut c_outlook_fresh c_outlook_size c_outlook_door c_outlook_fines c_outlook_hours c_outlook_longestWalked c_outlook_walked c_outlook_ends c_outlook_happy c_outlook_leastBread c_outlook_mostBread c_outlook_hides : Int32) (c_outlook_best c_outlook_longest : Nat → Int32) (c_sights_size : Int32) (c_sights_as c_sights_corner : Nat → Int32) (c_plan_size c_plan_going : Int32) (c_plan_told c_plan_able : Nat → Int32) (c_plan_march_at c_plan_march_hour c_plan_march_fines c_plan_march_led c_plan_march_taken c_plan_march_shut : Int32) (m_trace : Int64) (m_typed m_at m_start m_sort m_value m_fault m_rowLong m_homes m_bestValue m_seen m_planMany : Int32) (m_text m_corners m_streets m_ends m_time m_leaders m_home m_feet m_far m_now m_isKept m_tried m_row m_who m_then m_best m_seenAs m_seenAt m_plan : Nat → Int32) (x1 : Int32) (h : (RR c_traced c_text_length c_text_place c_text_start c_text_token c_text_value c_text_bytes c_map_corners c_map_streets c_map_leaders c_map_first c_map_second c_map_hours c_map_home c_map_feet c_map_far c_draft_corners c_draft_streets c_draft_leaders c_draft_first c_draft_second c_draft_hours c_draft_home c_draft_feet c_draft_far c_march_at c_march_hour c_march_fines c_march_led c_march_taken c_march_shut c_history_size c_history_past c_images0_kept c_images0_march_at c_images0_march_hour c_images0_march_fines c_images0_march_led c_images0_march_taken c_images0_march_shut c_images0_history_size c_images0_history_past c_images1_kept c_images1_march_at c_images1_march_hour c_images1_march_fines c_images1_march_led c_images1_march_taken c_images1_march_shut c_images1_history_size c_images1_history_past c_row_size c_row_homes c_row_told c_row_leading c_row_ended c_row_march_at c_row_march_hour c_row_march_fines c_row_march_led c_row_march_taken c_row_march_shut c_outlook_fresh c_outlook_size c_outlook_door c_outlook_fines c_outlook_hours c_outlook_longestWalked c_outlook_walked c_outlook_ends c_outlook_happy c_outlook_leastBread c_outlook_mostBread c_outlook_hides c_outlook_best c_outlook_longest c_sights_size c_sights_as c_sights_corner c_plan_size c_plan_going c_plan_told c_plan_able c_plan_march_at c_plan_march_hour c_plan_march_fines c_plan_march_led c_plan_march_taken c_plan_march_shut m_trace m_typed m_at m_start m_sort m_value m_fault m_rowLong m_homes m_bestValue m_seen m_planMany m_text m_corners m_streets m_ends m_time m_leaders m_home m_feet m_far m_now m_isKept m_tried m_row m_who m_then m_best m_seenAs m_seenAt m_plan)) : ∃ u v, (fX9_most N c_map_corners c_map_streets c_map_leaders c_map_first c_map_second c_map_hours c_map_home c_map_feet c_map_far c_march_at c_march_hour c_march_fines c_march_led c_march_taken c_march_shut c_row_size c_row_homes c_row_told c_row_leading c_row_ended c_row_march_at c_row_march_hour c_row_march_fines c_row_march_led c_row_march_taken c_row_march_shut c_outlook_fresh c_outlook_size c_outlook_door c_outlook_fines c_outlook_hours c_outlook_longestWalked c_outlook_walked c_outlook_ends c_outlook_happy c_outlook_leastBread c_outlook_mostBread c_outlook_hides c_outlook_best c_outlook_longest x1) = some u ∧ (fX10_most N m_rowLong m_homes m_streets m_ends m_time m_leaders m_home m_feet m_far m_now m_tried m_row m_who m_then m_best x1) = some v ∧ u.1 = v.1 ∧ (RR c_traced c_text_length c_text_place c_text_start c_text_token c_text_value c_text_bytes c_map_corners c_map_streets c_map_leaders c_map_first c_map_second c_map_hours c_map_home c_map_feet c_map_far c_draft_corners c_draft_streets c_draft_leaders c_draft_first c_draft_second c_draft_hours c_draft_home c_draft_feet c_draft_far c_march_at c_march_hour c_march_fines c_march_led c_march_taken c_march_shut c_history_size c_history_past c_images0_kept c_images0_march_at c_images0_march_hour c_images0_march_fines c_images0_march_led c_images0_march_taken c_images0_march_shut c_images0_history_size c_images0_history_past c_images1_kept c_images1_march_at c_images1_march_hour c_images1_march_fines c_images1_march_led c_images1_march_taken c_images1_march_shut c_images1_history_size c_images1_history_past u.2.1 u.2.2.1 u.2.2.2.1 u.2.2.2.2.1 u.2.2.2.2.2.1 u.2.2.2.2.2.2.1 u.2.2.2.2.2.2.2.1 u.2.2.2.2.2.2.2.2.1 u.2.2.2.2.2.2.2.2.2.1 u.2.2.2.2.2.2.2.2.2.2.1 u.2.2.2.2.2.2.2.2.2.2.2.1 u.2.2.2.2.2.2.2.2.2.2.2.2.1 u.2.2.2.2.2.2.2.2.2.2.2.2.2.1 u.2.2.2.2.2.2.2.2.2.2.2.2.2.2.1 u.2.2.2.2.2.2.2.2.2.2.2.2.2.2.2.1 u.2.2.2.2.2.2.2.2.2.2.2.2.2.2.2.2.1 u.2.2.2.2.2.2.2.2.2.2.2.2.2.2.2.2.2.1 u.2.2.2.2.2.2.2.2.2.2.2.2.2.2.2.2.2.2.1 u.2.2.2.2.2.2.2.2.2.2.2.2.2.2.2.2.2.2.2.1 u.2.2.2.2.2.2.2.2.2.2.2.2.2.2.2.2.2.2.2.2.1 u.2.2.2.2.2.2.2.2.2.2.2.2.2.2.2.2.2.2.2.2.2.1 u.2.2.2.2.2.2.2.2.2.2.2.2.2.2.2.2.2.2.2.2.2.2.1 u.2.2.2.2.2.2.2.2.2.2.2.2.2.2.2.2.2.2.2.2.2.2.2.1 u.2.2.2.2.2.2.2.2.2.2.2.2.2.2.2.2.2.2.2.2.2.2.2.2.1 u.2.2.2.2.2.2.2.2.2.2.2.2.2.2.2.2.2.2.2.2.2.2.2.2.2 c_sights_size c_sights_as c_sights_corner c_plan_size c_plan_going c_plan_told c_plan_able c_plan_march_at c_plan_march_hour c_plan_march_fines c_plan_march_led c_plan_march_taken c_plan_march_shut m_trace m_typed m_at m_start m_sort m_value m_fault v.2.1 v.2.2.1 m_bestValue m_seen m_planMany m_text m_corners m_streets m_ends m_time m_leaders m_home m_feet m_far m_now m_isKept v.2.2.2.1 v.2.2.2.2.1 v.2.2.2.2.2.1 v.2.2.2.2.2.2.1 v.2.2.2.2.2.2.2 m_seenAs m_seenAt m_plan) := by
  obtain ⟨c, m, hc, hm, hT, hcity, hmcity, hmarch, hnow, hh, hi0, hi1, hs, hp, htr, ho⟩ := h
  by_cases q1 : x1 < (-1 : Int32)
  · refine ⟨_, _, (by unfold fX9_most; rw [if_pos q1]), (by unfold fX10_most fX10_in; rw [if_pos q1, Option.bind_some, if_pos rfl]), rfl, ?_⟩
    exact ⟨c, m, hc, hm, hT, hcity, hmcity, hmarch, hnow, hh, hi0, hi1, hs, hp, htr, ho⟩
  by_cases q2 : (5 : Int32) < x1
  · refine ⟨_, _, (by unfold fX9_most; rw [if_neg q1, if_neg (nlt6 q2)]), (by unfold fX10_most fX10_in; rw [if_neg q1, if_pos q2, Option.bind_some, if_pos rfl]), rfl, ?_⟩
    exact ⟨c, m, hc, hm, hT, hcity, hmcity, hmarch, hnow, hh, hi0, hi1, hs, hp, htr, ho⟩
  have q6 := lt6 q2
  obtain ⟨x11, x12, x13, x14, x15, x16, x17, x18, x19, x20, x21, yd, yf, yh, ylw, yw, ye, yhp, yle, ymo, yhi, ybest, ylong, e1, e2⟩ := lookOut_ok (N := N) hN hc hcity hm hmarch c_row_size c_row_homes c_row_told c_row_leading c_row_ended c_row_march_at c_row_march_hour c_row_march_fines c_row_march_led c_row_march_taken c_row_march_shut _ _ _ _ _ _ _ _ _ _ _ _ _ _ ho
  obtain ⟨g1, g2, g3, g4⟩ := nn_ok hc hm
  obtain ⟨b, f1, f2⟩ := mfirst_ok (N := N) hN hc hmcity hm hnow m_rowLong m_row
  obtain ⟨ho', x3', tr', rw', wh', th', be', k1, k2⟩ := most_loop (N := N) (x1 := x1) hN g1 hc hmcity hm hnow 720 N (tt c m) none m_homes (-9) m_tried b m_who m_then m_best (by omega) g2 g3 g4 f2 rfl
  have k2 : lrep (nn c m) (longF c m) x3' be' := k2
  obtain ⟨v, hv⟩ := long_some c m
  have e2' := e2
  obtain ⟨-, -, e3, -⟩ := e2
  rw [hv] at e3 k2
  have md : ∀ z, mostR (nn c m) x1 ho' x3' tr' rw' wh' th' be' = z → fX10_most N m_rowLong m_homes m_streets m_ends m_time m_leaders m_home m_feet m_far m_now m_tried m_row m_who m_then m_best x1 = z := fun z hz => by
    unfold fX10_most fX10_in
    rw [if_neg q1, if_neg q2, Option.bind_some, if_neg (by decide), f1, Option.bind_some]
    exact k1.trans hz
  by_cases qn : x1 < 0
  · obtain rfl := x_neg1 qn q1
    refine ⟨_, _, (by unfold fX9_most; rw [if_neg q1, if_pos q6, e1, Option.bind_some, if_pos rfl]), md _ (if_pos rfl), e3.1.trans k2.1.symm, ?_⟩
    exact ⟨c, m, hc, hm, hT, hcity, hmcity, hmarch, hnow, hh, hi0, hi1, hs, hp, htr, Or.inr ⟨rfl, e2'⟩⟩
  · obtain ⟨j, hj, rfl⟩ := nI_of qn
    have n1 : ¬ nI j = (-1 : Int32) := nI_neg hj _ (by decide)
    have hj6 : j < 6 := (nI_ltI hj (by omega)).mp q6
    by_cases qj : nn c m ≤ j
    · refine ⟨_, _, (by unfold fX9_most; rw [if_neg q1, if_pos q6, e1, Option.bind_some, if_neg n1, if_pos (nI_le qj hj)]), md _ (by unfold mostR; rw [if_neg n1, if_pos (nI_le qj hj)]), rfl, ?_⟩
      exact ⟨c, m, hc, hm, hT, hcity, hmcity, hmarch, hnow, hh, hi0, hi1, hs, hp, htr, Or.inr ⟨rfl, e2'⟩⟩
    · refine ⟨_, _, (by unfold fX9_most; rw [if_neg q1, if_pos q6, e1, Option.bind_some, if_neg n1, if_neg (nI_ge (by omega) (by omega)), gi_ok hj6 (by omega)]), md _ (by unfold mostR; rw [if_neg n1, if_neg (nI_ge (by omega) (by omega)), gi_ok hj6 (by omega)]), ?_, ?_⟩
      · show ylong (nI j).toNatClampNeg = be' (nI j).toNatClampNeg
        rw [cl hj, e3.2.2 j (by omega), k2.2.2 j (by omega)]
      · exact ⟨c, m, hc, hm, hT, hcity, hmcity, hmarch, hnow, hh, hi0, hi1, hs, hp, htr, Or.inr ⟨rfl, e2'⟩⟩
set_option maxHeartbeats 4000000 in
theorem sim_rows (N : Nat) (hN : 1000 ≤ N) (c_traced : Int64) (c_text_length c_text_place c_text_start c_text_token c_text_value : Int32) (c_text_bytes : Nat → Int32) (c_map_corners c_map_streets c_map_leaders : Int32) (c_map_first c_map_second c_map_hours c_map_home c_map_feet : Nat → Int32) (c_map_far : Nat → Nat → Int32) (c_draft_corners c_draft_streets c_draft_leaders : Int32) (c_draft_first c_draft_second c_draft_hours c_draft_home c_draft_feet : Nat → Int32) (c_draft_far : Nat → Nat → Int32) (c_march_at c_march_hour c_march_fines c_march_led c_march_taken c_march_shut c_history_size : Int32) (c_history_past : Nat → Nat → Int32) (c_images0_kept c_images0_march_at c_images0_march_hour c_images0_march_fines c_images0_march_led c_images0_march_taken c_images0_march_shut c_images0_history_size : Int32) (c_images0_history_past : Nat → Nat → Int32) (c_images1_kept c_images1_march_at c_images1_march_hour c_images1_march_fines c_images1_march_led c_images1_march_taken c_images1_march_shut c_images1_history_size : Int32) (c_images1_history_past : Nat → Nat → Int32) (c_row_size c_row_homes : Int32) (c_row_told c_row_leading c_row_ended : Nat → Int32) (c_row_march_at c_row_march_hour c_row_march_fines c_row_march_led c_row_march_taken c_row_march_shut c_outlook_fresh c_outlook_size c_outlook_door c_outlook_fines c_outlook_hours c_outlook_longestWalked c_outlook_walked c_outlook_ends c_outlook_happy c_outlook_leastBread c_outlook_mostBread c_outlook_hides : Int32) (c_outlook_best c_outlook_longest : Nat → Int32) (c_sights_size : Int32) (c_sights_as c_sights_corner : Nat → Int32) (c_plan_size c_plan_going : Int32) (c_plan_told c_plan_able : Nat → Int32) (c_plan_march_at c_plan_march_hour c_plan_march_fines c_plan_march_led c_plan_march_taken c_plan_march_shut : Int32) (m_trace : Int64) (m_typed m_at m_start m_sort m_value m_fault m_rowLong m_homes m_bestValue m_seen m_planMany : Int32) (m_text m_corners m_streets m_ends m_time m_leaders m_home m_feet m_far m_now m_isKept m_tried m_row m_who m_then m_best m_seenAs m_seenAt m_plan : Nat → Int32) (x1 : Int32) (h : (RR c_traced c_text_length c_text_place c_text_start c_text_token c_text_value c_text_bytes c_map_corners c_map_streets c_map_leaders c_map_first c_map_second c_map_hours c_map_home c_map_feet c_map_far c_draft_corners c_draft_streets c_draft_leaders c_draft_first c_draft_second c_draft_hours c_draft_home c_draft_feet c_draft_far c_march_at c_march_hour c_march_fines c_march_led c_march_taken c_march_shut c_history_size c_history_past c_images0_kept c_images0_march_at c_images0_march_hour c_images0_march_fines c_images0_march_led c_images0_march_taken c_images0_march_shut c_images0_history_size c_images0_history_past c_images1_kept c_images1_march_at c_images1_march_hour c_images1_march_fines c_images1_march_led c_images1_march_taken c_images1_march_shut c_images1_history_size c_images1_history_past c_row_size c_row_homes c_row_told c_row_leading c_row_ended c_row_march_at c_row_march_hour c_row_march_fines c_row_march_led c_row_march_taken c_row_march_shut c_outlook_fresh c_outlook_size c_outlook_door c_outlook_fines c_outlook_hours c_outlook_longestWalked c_outlook_walked c_outlook_ends c_outlook_happy c_outlook_leastBread c_outlook_mostBread c_outlook_hides c_outlook_best c_outlook_longest c_sights_size c_sights_as c_sights_corner c_plan_size c_plan_going c_plan_told c_plan_able c_plan_march_at c_plan_march_hour c_plan_march_fines c_plan_march_led c_plan_march_taken c_plan_march_shut m_trace m_typed m_at m_start m_sort m_value m_fault m_rowLong m_homes m_bestValue m_seen m_planMany m_text m_corners m_streets m_ends m_time m_leaders m_home m_feet m_far m_now m_isKept m_tried m_row m_who m_then m_best m_seenAs m_seenAt m_plan)) : ∃ u v, (fX9_rows N c_map_corners c_map_streets c_map_leaders c_map_first c_map_second c_map_hours c_map_home c_map_feet c_map_far c_march_at c_march_hour c_march_fines c_march_led c_march_taken c_march_shut c_row_size c_row_homes c_row_told c_row_leading c_row_ended c_row_march_at c_row_march_hour c_row_march_fines c_row_march_led c_row_march_taken c_row_march_shut c_outlook_fresh c_outlook_size c_outlook_door c_outlook_fines c_outlook_hours c_outlook_longestWalked c_outlook_walked c_outlook_ends c_outlook_happy c_outlook_leastBread c_outlook_mostBread c_outlook_hides c_outlook_best c_outlook_longest x1) = some u ∧ (fX10_rows N m_rowLong m_homes m_corners m_streets m_ends m_time m_leaders m_home m_feet m_far m_now m_tried m_row m_who m_then x1) = some v ∧ u.1 = v.1 ∧ (RR c_traced c_text_length c_text_place c_text_start c_text_token c_text_value c_text_bytes c_map_corners c_map_streets c_map_leaders c_map_first c_map_second c_map_hours c_map_home c_map_feet c_map_far c_draft_corners c_draft_streets c_draft_leaders c_draft_first c_draft_second c_draft_hours c_draft_home c_draft_feet c_draft_far c_march_at c_march_hour c_march_fines c_march_led c_march_taken c_march_shut c_history_size c_history_past c_images0_kept c_images0_march_at c_images0_march_hour c_images0_march_fines c_images0_march_led c_images0_march_taken c_images0_march_shut c_images0_history_size c_images0_history_past c_images1_kept c_images1_march_at c_images1_march_hour c_images1_march_fines c_images1_march_led c_images1_march_taken c_images1_march_shut c_images1_history_size c_images1_history_past u.2.1 u.2.2.1 u.2.2.2.1 u.2.2.2.2.1 u.2.2.2.2.2.1 u.2.2.2.2.2.2.1 u.2.2.2.2.2.2.2.1 u.2.2.2.2.2.2.2.2.1 u.2.2.2.2.2.2.2.2.2.1 u.2.2.2.2.2.2.2.2.2.2.1 u.2.2.2.2.2.2.2.2.2.2.2.1 u.2.2.2.2.2.2.2.2.2.2.2.2.1 u.2.2.2.2.2.2.2.2.2.2.2.2.2.1 u.2.2.2.2.2.2.2.2.2.2.2.2.2.2.1 u.2.2.2.2.2.2.2.2.2.2.2.2.2.2.2.1 u.2.2.2.2.2.2.2.2.2.2.2.2.2.2.2.2.1 u.2.2.2.2.2.2.2.2.2.2.2.2.2.2.2.2.2.1 u.2.2.2.2.2.2.2.2.2.2.2.2.2.2.2.2.2.2.1 u.2.2.2.2.2.2.2.2.2.2.2.2.2.2.2.2.2.2.2.1 u.2.2.2.2.2.2.2.2.2.2.2.2.2.2.2.2.2.2.2.2.1 u.2.2.2.2.2.2.2.2.2.2.2.2.2.2.2.2.2.2.2.2.2.1 u.2.2.2.2.2.2.2.2.2.2.2.2.2.2.2.2.2.2.2.2.2.2.1 u.2.2.2.2.2.2.2.2.2.2.2.2.2.2.2.2.2.2.2.2.2.2.2.1 u.2.2.2.2.2.2.2.2.2.2.2.2.2.2.2.2.2.2.2.2.2.2.2.2.1 u.2.2.2.2.2.2.2.2.2.2.2.2.2.2.2.2.2.2.2.2.2.2.2.2.2 c_sights_size c_sights_as c_sights_corner c_plan_size c_plan_going c_plan_told c_plan_able c_plan_march_at c_plan_march_hour c_plan_march_fines c_plan_march_led c_plan_march_taken c_plan_march_shut m_trace m_typed m_at m_start m_sort m_value m_fault v.2.1 v.2.2.1 m_bestValue m_seen m_planMany m_text m_corners m_streets m_ends m_time m_leaders m_home m_feet m_far m_now m_isKept v.2.2.2.1 v.2.2.2.2.1 v.2.2.2.2.2.1 v.2.2.2.2.2.2 m_best m_seenAs m_seenAt m_plan) := by
  obtain ⟨c, m, hc, hm, hT, hcity, hmcity, hmarch, hnow, hh, hi0, hi1, hs, hp, htr, ho⟩ := h
  by_cases q1 : x1 < 0
  · refine ⟨_, _, (by unfold fX9_rows; rw [if_pos q1]), (by unfold fX10_rows fX10_in; rw [if_pos q1, Option.bind_some, if_pos rfl]), rfl, ?_⟩
    exact ⟨c, m, hc, hm, hT, hcity, hmcity, hmarch, hnow, hh, hi0, hi1, hs, hp, htr, ho⟩
  by_cases q2 : (5 : Int32) < x1
  · refine ⟨_, _, (by unfold fX9_rows; rw [if_neg q1, if_neg (nle5 q2)]), (by unfold fX10_rows fX10_in; rw [if_neg q1, if_pos q2, Option.bind_some, if_pos rfl]), rfl, ?_⟩
    exact ⟨c, m, hc, hm, hT, hcity, hmcity, hmarch, hnow, hh, hi0, hi1, hs, hp, htr, ho⟩
  obtain ⟨x11, x12, x13, x14, x15, x16, x17, x18, x19, x20, x21, yd, yf, yh, ylw, yw, ye, yhp, yle, ymo, yhi, ybest, ylong, e1, e2⟩ := lookOut_ok (N := N) hN hc hcity hm hmarch c_row_size c_row_homes c_row_told c_row_leading c_row_ended c_row_march_at c_row_march_hour c_row_march_fines c_row_march_led c_row_march_taken c_row_march_shut _ _ _ _ _ _ _ _ _ _ _ _ _ _ ho
  obtain ⟨g1, g2, g3, g4⟩ := nn_ok hc hm
  obtain ⟨b, f1, f2⟩ := mfirst_ok (N := N) hN hc hmcity hm hnow m_rowLong m_row
  obtain ⟨ho', y2, y3, y4, y5, y6, y7, tr', rw', wh', th', k1, k2⟩ := rows_loop (N := N) (x1 := x1) hN g1 hc hmcity hm hnow 720 N (tt c m) (0, 0, 0, none, 0, 0) m_homes (nI (2 ^ mcS c - 1)) 0 0 (-9) 0 0 m_tried b m_who m_then (by omega) g2 g3 g4 f2 ⟨⟨_, rfl, nev_0 hc.2.1⟩, by decide, by show (0 : Int32) = nI (if mcC c = 0 then 0 else 0); rw [ite_self]; rfl, by decide, rfl, by decide, rfl, fun v hv => (by cases hv), rfl, by decide, rfl, by decide⟩
  have k2 : mrepO c (allF c m) y2 y3 y4 y5 y6 y7 := k2
  obtain ⟨v, hv⟩ := all_some c m
  have e2' := e2
  obtain ⟨-, -, -, ee, e4, e5⟩ := e2
  obtain ⟨s1, s2, s3, s4, s5, s6, s7, s8, s9, s10, s11, s12⟩ := e4
  obtain ⟨⟨v2, t1, t1'⟩, t2, t3, t4, t5, t6, t7, t8, t9, t10, t11, t12⟩ := k2
  have md : ∀ z, rowsR (nn c m) x1 ho' y2 y3 y4 y5 y6 y7 tr' rw' wh' th' = z → fX10_rows N m_rowLong m_homes m_corners m_streets m_ends m_time m_leaders m_home m_feet m_far m_now m_tried m_row m_who m_then x1 = z := fun z hz => by
    unfold fX10_rows fX10_in
    rw [if_neg q1, if_neg q2, Option.bind_some, if_neg (by decide), f1, Option.bind_some, cl0, hmcity.2.1, ones_nI hc.2.1]
    exact k1.trans hz
  obtain ⟨j, hj, rfl⟩ := nI_of q1
  have hj6 : j < 6 := (nI_ltI hj (by omega)).mp (lt6 q2)
  rcases (show j = 0 ∨ j = 1 ∨ j = 2 ∨ j = 3 ∨ j = 4 ∨ j = 5 by omega) with rfl | rfl | rfl | rfl | rfl | rfl
  · refine ⟨_, _, (by unfold fX9_rows fX0_streetBits; rw [if_neg q1, if_pos (le5 q2), e1, Option.bind_some, if_pos (by decide), Option.bind_some]), md _ (by unfold rowsR; rw [if_pos (by decide)]), ?_, ⟨c, m, hc, hm, hT, hcity, hmcity, hmarch, hnow, hh, hi0, hi1, hs, hp, htr, Or.inr ⟨rfl, e2'⟩⟩⟩
    show (((1 : Int32) <<< (c_map_streets &&& 31)) - (1 : Int32)) &&& (yw ^^^ (-1 : Int32)) = y2
    rw [hcity.2.1, ones_nI hc.2.1, s1, all_or, andn_nI, t1]
    exact nI_cong (nev_same (nev_ones hc.2.1) t1')
  · refine ⟨_, _, (by unfold fX9_rows; rw [if_neg q1, if_pos (le5 q2), e1, Option.bind_some, if_neg (by decide), if_pos (by decide)]), md _ (by unfold rowsR; rw [if_neg (by decide), if_pos (by decide)]), ?_, ⟨c, m, hc, hm, hT, hcity, hmcity, hmarch, hnow, hh, hi0, hi1, hs, hp, htr, Or.inr ⟨rfl, e2'⟩⟩⟩
    show ye = y3
    rw [e5, t3, s3]
    split <;> rfl
  · refine ⟨_, _, (by unfold fX9_rows; rw [if_neg q1, if_pos (le5 q2), e1, Option.bind_some, if_neg (by decide), if_neg (by decide), if_pos (by decide)]), md _ (by unfold rowsR; rw [if_neg (by decide), if_neg (by decide), if_pos (by decide)]), ?_, ⟨c, m, hc, hm, hT, hcity, hmcity, hmarch, hnow, hh, hi0, hi1, hs, hp, htr, Or.inr ⟨rfl, e2'⟩⟩⟩
    exact s5.trans t5.symm
  · refine ⟨_, _, (by unfold fX9_rows; rw [if_neg q1, if_pos (le5 q2), e1, Option.bind_some, if_neg (by decide), if_neg (by decide), if_neg (by decide), if_pos (by decide)]), md _ (by unfold rowsR; rw [if_neg (by decide), if_neg (by decide), if_neg (by decide), if_pos (by decide)]), ?_, ⟨c, m, hc, hm, hT, hcity, hmcity, hmarch, hnow, hh, hi0, hi1, hs, hp, htr, Or.inr ⟨rfl, e2'⟩⟩⟩
    show yle = y5
    rw [s7, t7, hv]
    rfl
  · refine ⟨_, _, (by unfold fX9_rows; rw [if_neg q1, if_pos (le5 q2), e1, Option.bind_some, if_neg (by decide), if_neg (by decide), if_neg (by decide), if_neg (by decide), if_pos (by decide)]), md _ (by unfold rowsR; rw [if_neg (by decide), if_neg (by decide), if_neg (by decide), if_neg (by decide), if_pos (by decide)]), ?_, ⟨c, m, hc, hm, hT, hcity, hmcity, hmarch, hnow, hh, hi0, hi1, hs, hp, htr, Or.inr ⟨rfl, e2'⟩⟩⟩
    exact s9.trans t9.symm
  · refine ⟨_, _, (by unfold fX9_rows; rw [if_neg q1, if_pos (le5 q2), e1, Option.bind_some, if_neg (by decide), if_neg (by decide), if_neg (by decide), if_neg (by decide), if_neg (by decide)]), md _ (by unfold rowsR; rw [if_neg (by decide), if_neg (by decide), if_neg (by decide), if_neg (by decide), if_neg (by decide)]), ?_, ⟨c, m, hc, hm, hT, hcity, hmcity, hmarch, hnow, hh, hi0, hi1, hs, hp, htr, Or.inr ⟨rfl, e2'⟩⟩⟩
    exact s11.trans t11.symm
