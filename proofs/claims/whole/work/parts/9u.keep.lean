/-! keep and back -/
theorem RHist_eq2 {c : MC} {s : Int32} {p : Nat → Nat → Int32} {b q : Nat → Int32} (h : RHist c s p b) (e : ∀ y, y < 188 → q y = b y) : RHist c s p q := by
  obtain ⟨k, hk, h1, h2, h3⟩ := h
  refine ⟨k, hk, h1, (e 17 (by omega)).trans h2, fun i hi => ?_⟩
  obtain ⟨m, w1, w2, w3⟩ := h3 i hi
  exact ⟨m, w1, w2, MMarch_eq w3 (fun x _ => e _ (by omega))⟩
theorem RHist_past {c : MC} {k : Nat} {p p' : Nat → Nat → Int32} {b : Nat → Int32} (hk : k ≤ 10) (h : RHist c (nI k) p b) (e : ∀ i f, i < k → f < 6 → p' i f = p i f) : RHist c (nI k) p' b := by
  obtain ⟨k', hk', h1, h2, h3⟩ := h
  have ek : k = k' := (nI_eq (by omega) (by omega)).mp h1
  subst ek
  refine ⟨k, hk, rfl, h2, fun i hi => ?_⟩
  obtain ⟨m, w1, w2, w3⟩ := h3 i hi
  refine ⟨m, w1, ?_, w3⟩
  rw [e i 0 hi (by omega), e i 1 hi (by omega), e i 2 hi (by omega), e i 3 hi (by omega), e i 4 hi (by omega), e i 5 hi (by omega)]
  exact w2
theorem RImg_eq {c : MC} {kept a b d e f h size : Int32} {past : Nat → Nat → Int32} {km km' : Int32} {g g' : Nat → Int32} (hh : RImg c kept a b d e f h size past km g) (ek : km' = km) (eg : ∀ y, y < 188 → g' y = g y) : RImg c kept a b d e f h size past km' g' := by
  subst ek
  rcases hh with hh | ⟨h1, h2, ⟨m, w1, w2, w3⟩, h4⟩
  · exact Or.inl hh
  · exact Or.inr ⟨h1, h2, ⟨m, w1, w2, MMarch_eq w3 (fun x hx => eg x (by omega))⟩, RHist_eq2 h4 eg⟩
theorem lt2 {x : Int32} (h : ¬ (1 : Int32) < x) : x < (2 : Int32) := by
  rw [Int32.lt_iff_toInt_lt] at h ⊢
  have e5 : (1 : Int32).toInt = 1 := by decide
  have e6 : (2 : Int32).toInt = 2 := by decide
  omega
theorem nlt2 {x : Int32} (h : (1 : Int32) < x) : ¬ x < (2 : Int32) := by
  rw [Int32.lt_iff_toInt_lt] at h ⊢
  have e5 : (1 : Int32).toInt = 1 := by decide
  have e6 : (2 : Int32).toInt = 2 := by decide
  omega
set_option maxHeartbeats 4000000 in
theorem sim_keep (N : Nat) (hN : 1000 ≤ N) (c_traced : Int64) (c_text_length c_text_place c_text_start c_text_token c_text_value : Int32) (c_text_bytes : Nat → Int32) (c_map_corners c_map_streets c_map_leaders : Int32) (c_map_first c_map_second c_map_hours c_map_home c_map_feet : Nat → Int32) (c_map_far : Nat → Nat → Int32) (c_draft_corners c_draft_streets c_draft_leaders : Int32) (c_draft_first c_draft_second c_draft_hours c_draft_home c_draft_feet : Nat → Int32) (c_draft_far : Nat → Nat → Int32) (c_march_at c_march_hour c_march_fines c_march_led c_march_taken c_march_shut c_history_size : Int32) (c_history_past : Nat → Nat → Int32) (c_images0_kept c_images0_march_at c_images0_march_hour c_images0_march_fines c_images0_march_led c_images0_march_taken c_images0_march_shut c_images0_history_size : Int32) (c_images0_history_past : Nat → Nat → Int32) (c_images1_kept c_images1_march_at c_images1_march_hour c_images1_march_fines c_images1_march_led c_images1_march_taken c_images1_march_shut c_images1_history_size : Int32) (c_images1_history_past : Nat → Nat → Int32) (c_row_size c_row_homes : Int32) (c_row_told c_row_leading c_row_ended : Nat → Int32) (c_row_march_at c_row_march_hour c_row_march_fines c_row_march_led c_row_march_taken c_row_march_shut c_outlook_fresh c_outlook_size c_outlook_door c_outlook_fines c_outlook_hours c_outlook_longestWalked c_outlook_walked c_outlook_ends c_outlook_happy c_outlook_leastBread c_outlook_mostBread c_outlook_hides : Int32) (c_outlook_best c_outlook_longest : Nat → Int32) (c_sights_size : Int32) (c_sights_as c_sights_corner : Nat → Int32) (c_plan_size c_plan_going : Int32) (c_plan_told c_plan_able : Nat → Int32) (c_plan_march_at c_plan_march_hour c_plan_march_fines c_plan_march_led c_plan_march_taken c_plan_march_shut : Int32) (m_trace : Int64) (m_typed m_at m_start m_sort m_value m_fault m_rowLong m_homes m_bestValue m_seen m_planMany : Int32) (m_text m_corners m_streets m_ends m_time m_leaders m_home m_feet m_far m_now m_isKept m_tried m_row m_who m_then m_best m_seenAs m_seenAt m_plan : Nat → Int32) (x1 : Int32) (h : (RR c_traced c_text_length c_text_place c_text_start c_text_token c_text_value c_text_bytes c_map_corners c_map_streets c_map_leaders c_map_first c_map_second c_map_hours c_map_home c_map_feet c_map_far c_draft_corners c_draft_streets c_draft_leaders c_draft_first c_draft_second c_draft_hours c_draft_home c_draft_feet c_draft_far c_march_at c_march_hour c_march_fines c_march_led c_march_taken c_march_shut c_history_size c_history_past c_images0_kept c_images0_march_at c_images0_march_hour c_images0_march_fines c_images0_march_led c_images0_march_taken c_images0_march_shut c_images0_history_size c_images0_history_past c_images1_kept c_images1_march_at c_images1_march_hour c_images1_march_fines c_images1_march_led c_images1_march_taken c_images1_march_shut c_images1_history_size c_images1_history_past c_row_size c_row_homes c_row_told c_row_leading c_row_ended c_row_march_at c_row_march_hour c_row_march_fines c_row_march_led c_row_march_taken c_row_march_shut c_outlook_fresh c_outlook_size c_outlook_door c_outlook_fines c_outlook_hours c_outlook_longestWalked c_outlook_walked c_outlook_ends c_outlook_happy c_outlook_leastBread c_outlook_mostBread c_outlook_hides c_outlook_best c_outlook_longest c_sights_size c_sights_as c_sights_corner c_plan_size c_plan_going c_plan_told c_plan_able c_plan_march_at c_plan_march_hour c_plan_march_fines c_plan_march_led c_plan_march_taken c_plan_march_shut m_trace m_typed m_at m_start m_sort m_value m_fault m_rowLong m_homes m_bestValue m_seen m_planMany m_text m_corners m_streets m_ends m_time m_leaders m_home m_feet m_far m_now m_isKept m_tried m_row m_who m_then m_best m_seenAs m_seenAt m_plan)) : ∃ u v, (fX9_keep N c_march_at c_march_hour c_march_fines c_march_led c_march_taken c_march_shut c_history_size c_history_past c_images0_kept c_images0_march_at c_images0_march_hour c_images0_march_fines c_images0_march_led c_images0_march_taken c_images0_march_shut c_images0_history_size c_images0_history_past c_images1_kept c_images1_march_at c_images1_march_hour c_images1_march_fines c_images1_march_led c_images1_march_taken c_images1_march_shut c_images1_history_size c_images1_history_past x1) = some u ∧ (fX10_keep N m_now m_isKept x1) = some v ∧ u.1 = v.1 ∧ (RR c_traced c_text_length c_text_place c_text_start c_text_token c_text_value c_text_bytes c_map_corners c_map_streets c_map_leaders c_map_first c_map_second c_map_hours c_map_home c_map_feet c_map_far c_draft_corners c_draft_streets c_draft_leaders c_draft_first c_draft_second c_draft_hours c_draft_home c_draft_feet c_draft_far c_march_at c_march_hour c_march_fines c_march_led c_march_taken c_march_shut c_history_size c_history_past u.2.1 u.2.2.1 u.2.2.2.1 u.2.2.2.2.1 u.2.2.2.2.2.1 u.2.2.2.2.2.2.1 u.2.2.2.2.2.2.2.1 u.2.2.2.2.2.2.2.2.1 u.2.2.2.2.2.2.2.2.2.1 u.2.2.2.2.2.2.2.2.2.2.1 u.2.2.2.2.2.2.2.2.2.2.2.1 u.2.2.2.2.2.2.2.2.2.2.2.2.1 u.2.2.2.2.2.2.2.2.2.2.2.2.2.1 u.2.2.2.2.2.2.2.2.2.2.2.2.2.2.1 u.2.2.2.2.2.2.2.2.2.2.2.2.2.2.2.1 u.2.2.2.2.2.2.2.2.2.2.2.2.2.2.2.2.1 u.2.2.2.2.2.2.2.2.2.2.2.2.2.2.2.2.2.1 u.2.2.2.2.2.2.2.2.2.2.2.2.2.2.2.2.2.2 c_row_size c_row_homes c_row_told c_row_leading c_row_ended c_row_march_at c_row_march_hour c_row_march_fines c_row_march_led c_row_march_taken c_row_march_shut c_outlook_fresh c_outlook_size c_outlook_door c_outlook_fines c_outlook_hours c_outlook_longestWalked c_outlook_walked c_outlook_ends c_outlook_happy c_outlook_leastBread c_outlook_mostBread c_outlook_hides c_outlook_best c_outlook_longest c_sights_size c_sights_as c_sights_corner c_plan_size c_plan_going c_plan_told c_plan_able c_plan_march_at c_plan_march_hour c_plan_march_fines c_plan_march_led c_plan_march_taken c_plan_march_shut m_trace m_typed m_at m_start m_sort m_value m_fault m_rowLong m_homes m_bestValue m_seen m_planMany m_text m_corners m_streets m_ends m_time m_leaders m_home m_feet m_far v.2.1 v.2.2 m_tried m_row m_who m_then m_best m_seenAs m_seenAt m_plan) := by
  obtain ⟨c, m, hc, hm, hT, hcity, hmcity, hmarch, hnow, hh, hi0, hi1, hs, hp, htr, ho⟩ := h
  have fin := (⟨c, m, hc, hm, hT, hcity, hmcity, hmarch, hnow, hh, hi0, hi1, hs, hp, htr, ho⟩ : RR c_traced c_text_length c_text_place c_text_start c_text_token c_text_value c_text_bytes c_map_corners c_map_streets c_map_leaders c_map_first c_map_second c_map_hours c_map_home c_map_feet c_map_far c_draft_corners c_draft_streets c_draft_leaders c_draft_first c_draft_second c_draft_hours c_draft_home c_draft_feet c_draft_far c_march_at c_march_hour c_march_fines c_march_led c_march_taken c_march_shut c_history_size c_history_past c_images0_kept c_images0_march_at c_images0_march_hour c_images0_march_fines c_images0_march_led c_images0_march_taken c_images0_march_shut c_images0_history_size c_images0_history_past c_images1_kept c_images1_march_at c_images1_march_hour c_images1_march_fines c_images1_march_led c_images1_march_taken c_images1_march_shut c_images1_history_size c_images1_history_past c_row_size c_row_homes c_row_told c_row_leading c_row_ended c_row_march_at c_row_march_hour c_row_march_fines c_row_march_led c_row_march_taken c_row_march_shut c_outlook_fresh c_outlook_size c_outlook_door c_outlook_fines c_outlook_hours c_outlook_longestWalked c_outlook_walked c_outlook_ends c_outlook_happy c_outlook_leastBread c_outlook_mostBread c_outlook_hides c_outlook_best c_outlook_longest c_sights_size c_sights_as c_sights_corner c_plan_size c_plan_going c_plan_told c_plan_able c_plan_march_at c_plan_march_hour c_plan_march_fines c_plan_march_led c_plan_march_taken c_plan_march_shut m_trace m_typed m_at m_start m_sort m_value m_fault m_rowLong m_homes m_bestValue m_seen m_planMany m_text m_corners m_streets m_ends m_time m_leaders m_home m_feet m_far m_now m_isKept m_tried m_row m_who m_then m_best m_seenAs m_seenAt m_plan)
  by_cases q1 : x1 < 0
  · refine ⟨_, _, (by unfold fX9_keep; rw [if_pos q1]), (by unfold fX10_keep fX10_in; rw [if_pos q1, Option.bind_some, if_pos rfl]), ?_, ?_⟩
    · rfl
    exact fin
  by_cases q2 : (1 : Int32) < x1
  · refine ⟨_, _, (by unfold fX9_keep; rw [if_neg q1, if_neg (nlt2 q2)]), (by unfold fX10_keep fX10_in; rw [if_neg q1, if_pos q2, Option.bind_some, if_pos rfl]), ?_, ?_⟩
    · rfl
    exact fin
  have q3 := lt2 q2
  obtain ⟨i, hi, rfl⟩ := nI_of q1
  have hi2 : i < 2 := (nI_ltI hi (by omega)).mp q3
  have hh2 := hh
  obtain ⟨k, hk, h1, h17, hpp⟩ := hh2
  obtain ⟨b, l1, l2, l3⟩ := keep_loop (N := N) (g := m_now) (K := m_isKept) hi2 188 0 N m_now (by omega) (by omega) (fun y _ => rfl) (fun y hy => absurd hy (by omega))
  have lo : ∀ y, y < 188 → b y = m_now y := fun y hy => l2 y (Or.inl (by omega))
  have hnow2 := MMarch_eq hnow (fun x hx => lo x (by omega))
  have hh3 : RHist c c_history_size c_history_past b := RHist_eq2 hh lo
  rcases (show i = 0 ∨ i = 1 by omega) with rfl | rfl
  · obtain ⟨p, c1, c2⟩ := become_ok (N := N) (q := c_history_past) (p := c_images0_history_past) (s0 := c_images0_history_size) hN hk
    rw [← h1] at c1
    refine ⟨_, _, (by unfold fX9_keep fX2_take fX3_become; rw [if_neg q1, if_pos q3, if_pos (show nI 0 = (0 : Int32) from rfl), Option.bind_some, c1, Option.bind_some, Option.bind_some]), (by unfold fX10_keep fX10_in; rw [if_neg q1, if_neg q2, Option.bind_some, if_neg (show ¬ (1 : Int32) = 0 by decide), show (0 : Int32) = nI 0 from rfl, l1]), ?_, ?_⟩
    · show c_march_hour = b 1
      rw [hmarch.2.1, hnow2.2.1]
    have hnew : RHist c c_history_size p (fun x => b (188 + x)) := by
      rw [h1]
      rw [h1] at hh
      exact RHist_eq2 (RHist_past hk hh c2) (fun y hy => l3 y hy)
    have himg : RImg c 1 c_march_at c_march_hour c_march_fines c_march_led c_march_taken c_march_shut c_history_size p (upd m_isKept 0 (vp_nar .boolean (1 : Int32)) 0) (fun x => b (188 + x)) := Or.inr ⟨rfl, pk_us, ⟨m, hm, hmarch, MMarch_eq hnow (fun x hx => l3 x (by omega))⟩, hnew⟩
    have hoth := RImg_eq (km' := upd m_isKept 0 (vp_nar .boolean (1 : Int32)) 1) (g' := fun x => b (376 + x)) hi1 (pk_un (by omega)) (fun y hy => l2 _ (by omega))
    exact ⟨c, m, hc, hm, hT, hcity, hmcity, hmarch, hnow2, hh3, himg, hoth, hs, hp, htr, ho⟩
  · obtain ⟨p, c1, c2⟩ := become_ok (N := N) (q := c_history_past) (p := c_images1_history_past) (s0 := c_images1_history_size) hN hk
    rw [← h1] at c1
    refine ⟨_, _, (by unfold fX9_keep fX2_take fX3_become; rw [if_neg q1, if_pos q3, if_neg (show ¬ nI 1 = (0 : Int32) by decide), gc_ok (show nI 1 = (1 : Int32) from rfl), Option.bind_some, c1, Option.bind_some, Option.bind_some]), (by unfold fX10_keep fX10_in; rw [if_neg q1, if_neg q2, Option.bind_some, if_neg (show ¬ (1 : Int32) = 0 by decide), show (0 : Int32) = nI 0 from rfl, l1]), ?_, ?_⟩
    · show c_march_hour = b 1
      rw [hmarch.2.1, hnow2.2.1]
    have hnew : RHist c c_history_size p (fun x => b (376 + x)) := by
      rw [h1]
      rw [h1] at hh
      exact RHist_eq2 (RHist_past hk hh c2) (fun y hy => l3 y hy)
    have himg : RImg c 1 c_march_at c_march_hour c_march_fines c_march_led c_march_taken c_march_shut c_history_size p (upd m_isKept 1 (vp_nar .boolean (1 : Int32)) 1) (fun x => b (376 + x)) := Or.inr ⟨rfl, pk_us, ⟨m, hm, hmarch, MMarch_eq hnow (fun x hx => l3 x (by omega))⟩, hnew⟩
    have hoth := RImg_eq (km' := upd m_isKept 1 (vp_nar .boolean (1 : Int32)) 0) (g' := fun x => b (188 + x)) hi0 (pk_un (by omega)) (fun y hy => l2 _ (by omega))
    exact ⟨c, m, hc, hm, hT, hcity, hmcity, hmarch, hnow2, hh3, hoth, himg, hs, hp, htr, ho⟩
set_option maxHeartbeats 4000000 in
theorem sim_back (N : Nat) (hN : 1000 ≤ N) (c_traced : Int64) (c_text_length c_text_place c_text_start c_text_token c_text_value : Int32) (c_text_bytes : Nat → Int32) (c_map_corners c_map_streets c_map_leaders : Int32) (c_map_first c_map_second c_map_hours c_map_home c_map_feet : Nat → Int32) (c_map_far : Nat → Nat → Int32) (c_draft_corners c_draft_streets c_draft_leaders : Int32) (c_draft_first c_draft_second c_draft_hours c_draft_home c_draft_feet : Nat → Int32) (c_draft_far : Nat → Nat → Int32) (c_march_at c_march_hour c_march_fines c_march_led c_march_taken c_march_shut c_history_size : Int32) (c_history_past : Nat → Nat → Int32) (c_images0_kept c_images0_march_at c_images0_march_hour c_images0_march_fines c_images0_march_led c_images0_march_taken c_images0_march_shut c_images0_history_size : Int32) (c_images0_history_past : Nat → Nat → Int32) (c_images1_kept c_images1_march_at c_images1_march_hour c_images1_march_fines c_images1_march_led c_images1_march_taken c_images1_march_shut c_images1_history_size : Int32) (c_images1_history_past : Nat → Nat → Int32) (c_row_size c_row_homes : Int32) (c_row_told c_row_leading c_row_ended : Nat → Int32) (c_row_march_at c_row_march_hour c_row_march_fines c_row_march_led c_row_march_taken c_row_march_shut c_outlook_fresh c_outlook_size c_outlook_door c_outlook_fines c_outlook_hours c_outlook_longestWalked c_outlook_walked c_outlook_ends c_outlook_happy c_outlook_leastBread c_outlook_mostBread c_outlook_hides : Int32) (c_outlook_best c_outlook_longest : Nat → Int32) (c_sights_size : Int32) (c_sights_as c_sights_corner : Nat → Int32) (c_plan_size c_plan_going : Int32) (c_plan_told c_plan_able : Nat → Int32) (c_plan_march_at c_plan_march_hour c_plan_march_fines c_plan_march_led c_plan_march_taken c_plan_march_shut : Int32) (m_trace : Int64) (m_typed m_at m_start m_sort m_value m_fault m_rowLong m_homes m_bestValue m_seen m_planMany : Int32) (m_text m_corners m_streets m_ends m_time m_leaders m_home m_feet m_far m_now m_isKept m_tried m_row m_who m_then m_best m_seenAs m_seenAt m_plan : Nat → Int32) (x1 : Int32) (h : (RR c_traced c_text_length c_text_place c_text_start c_text_token c_text_value c_text_bytes c_map_corners c_map_streets c_map_leaders c_map_first c_map_second c_map_hours c_map_home c_map_feet c_map_far c_draft_corners c_draft_streets c_draft_leaders c_draft_first c_draft_second c_draft_hours c_draft_home c_draft_feet c_draft_far c_march_at c_march_hour c_march_fines c_march_led c_march_taken c_march_shut c_history_size c_history_past c_images0_kept c_images0_march_at c_images0_march_hour c_images0_march_fines c_images0_march_led c_images0_march_taken c_images0_march_shut c_images0_history_size c_images0_history_past c_images1_kept c_images1_march_at c_images1_march_hour c_images1_march_fines c_images1_march_led c_images1_march_taken c_images1_march_shut c_images1_history_size c_images1_history_past c_row_size c_row_homes c_row_told c_row_leading c_row_ended c_row_march_at c_row_march_hour c_row_march_fines c_row_march_led c_row_march_taken c_row_march_shut c_outlook_fresh c_outlook_size c_outlook_door c_outlook_fines c_outlook_hours c_outlook_longestWalked c_outlook_walked c_outlook_ends c_outlook_happy c_outlook_leastBread c_outlook_mostBread c_outlook_hides c_outlook_best c_outlook_longest c_sights_size c_sights_as c_sights_corner c_plan_size c_plan_going c_plan_told c_plan_able c_plan_march_at c_plan_march_hour c_plan_march_fines c_plan_march_led c_plan_march_taken c_plan_march_shut m_trace m_typed m_at m_start m_sort m_value m_fault m_rowLong m_homes m_bestValue m_seen m_planMany m_text m_corners m_streets m_ends m_time m_leaders m_home m_feet m_far m_now m_isKept m_tried m_row m_who m_then m_best m_seenAs m_seenAt m_plan)) : ∃ u v, (fX9_back N c_march_at c_march_hour c_march_fines c_march_led c_march_taken c_march_shut c_history_size c_history_past c_images0_kept c_images0_march_at c_images0_march_hour c_images0_march_fines c_images0_march_led c_images0_march_taken c_images0_march_shut c_images0_history_size c_images0_history_past c_images1_kept c_images1_march_at c_images1_march_hour c_images1_march_fines c_images1_march_led c_images1_march_taken c_images1_march_shut c_images1_history_size c_images1_history_past c_outlook_fresh x1) = some u ∧ (fX10_back N m_now m_isKept x1) = some v ∧ u.1 = v.1 ∧ (RR c_traced c_text_length c_text_place c_text_start c_text_token c_text_value c_text_bytes c_map_corners c_map_streets c_map_leaders c_map_first c_map_second c_map_hours c_map_home c_map_feet c_map_far c_draft_corners c_draft_streets c_draft_leaders c_draft_first c_draft_second c_draft_hours c_draft_home c_draft_feet c_draft_far u.2.1 u.2.2.1 u.2.2.2.1 u.2.2.2.2.1 u.2.2.2.2.2.1 u.2.2.2.2.2.2.1 u.2.2.2.2.2.2.2.1 u.2.2.2.2.2.2.2.2.1 c_images0_kept c_images0_march_at c_images0_march_hour c_images0_march_fines c_images0_march_led c_images0_march_taken c_images0_march_shut c_images0_history_size c_images0_history_past c_images1_kept c_images1_march_at c_images1_march_hour c_images1_march_fines c_images1_march_led c_images1_march_taken c_images1_march_shut c_images1_history_size c_images1_history_past c_row_size c_row_homes c_row_told c_row_leading c_row_ended c_row_march_at c_row_march_hour c_row_march_fines c_row_march_led c_row_march_taken c_row_march_shut u.2.2.2.2.2.2.2.2.2 c_outlook_size c_outlook_door c_outlook_fines c_outlook_hours c_outlook_longestWalked c_outlook_walked c_outlook_ends c_outlook_happy c_outlook_leastBread c_outlook_mostBread c_outlook_hides c_outlook_best c_outlook_longest c_sights_size c_sights_as c_sights_corner c_plan_size c_plan_going c_plan_told c_plan_able c_plan_march_at c_plan_march_hour c_plan_march_fines c_plan_march_led c_plan_march_taken c_plan_march_shut m_trace m_typed m_at m_start m_sort m_value m_fault m_rowLong m_homes m_bestValue m_seen m_planMany m_text m_corners m_streets m_ends m_time m_leaders m_home m_feet m_far v.2 m_isKept m_tried m_row m_who m_then m_best m_seenAs m_seenAt m_plan) := by
  obtain ⟨c, m, hc, hm, hT, hcity, hmcity, hmarch, hnow, hh, hi0, hi1, hs, hp, htr, ho⟩ := h
  have fin := (⟨c, m, hc, hm, hT, hcity, hmcity, hmarch, hnow, hh, hi0, hi1, hs, hp, htr, ho⟩ : RR c_traced c_text_length c_text_place c_text_start c_text_token c_text_value c_text_bytes c_map_corners c_map_streets c_map_leaders c_map_first c_map_second c_map_hours c_map_home c_map_feet c_map_far c_draft_corners c_draft_streets c_draft_leaders c_draft_first c_draft_second c_draft_hours c_draft_home c_draft_feet c_draft_far c_march_at c_march_hour c_march_fines c_march_led c_march_taken c_march_shut c_history_size c_history_past c_images0_kept c_images0_march_at c_images0_march_hour c_images0_march_fines c_images0_march_led c_images0_march_taken c_images0_march_shut c_images0_history_size c_images0_history_past c_images1_kept c_images1_march_at c_images1_march_hour c_images1_march_fines c_images1_march_led c_images1_march_taken c_images1_march_shut c_images1_history_size c_images1_history_past c_row_size c_row_homes c_row_told c_row_leading c_row_ended c_row_march_at c_row_march_hour c_row_march_fines c_row_march_led c_row_march_taken c_row_march_shut c_outlook_fresh c_outlook_size c_outlook_door c_outlook_fines c_outlook_hours c_outlook_longestWalked c_outlook_walked c_outlook_ends c_outlook_happy c_outlook_leastBread c_outlook_mostBread c_outlook_hides c_outlook_best c_outlook_longest c_sights_size c_sights_as c_sights_corner c_plan_size c_plan_going c_plan_told c_plan_able c_plan_march_at c_plan_march_hour c_plan_march_fines c_plan_march_led c_plan_march_taken c_plan_march_shut m_trace m_typed m_at m_start m_sort m_value m_fault m_rowLong m_homes m_bestValue m_seen m_planMany m_text m_corners m_streets m_ends m_time m_leaders m_home m_feet m_far m_now m_isKept m_tried m_row m_who m_then m_best m_seenAs m_seenAt m_plan)
  by_cases q1 : x1 < 0
  · refine ⟨_, _, (by unfold fX9_back; rw [if_pos q1]), (by unfold fX10_back fX10_in; rw [if_pos q1, Option.bind_some, if_pos rfl]), ?_, ?_⟩
    · rfl
    exact fin
  by_cases q2 : (1 : Int32) < x1
  · refine ⟨_, _, (by unfold fX9_back; rw [if_neg q1, if_neg (nlt2 q2)]), (by unfold fX10_back fX10_in; rw [if_neg q1, if_pos q2, Option.bind_some, if_pos rfl]), ?_, ?_⟩
    · rfl
    exact fin
  have q3 := lt2 q2
  obtain ⟨i, hi, rfl⟩ := nI_of q1
  have hi2 : i < 2 := (nI_ltI hi (by omega)).mp q3
  rcases (show i = 0 ∨ i = 1 by omega) with rfl | rfl
  · have himg := hi0
    rcases himg with ⟨hk0, hk1⟩ | ⟨hk0, hk1, ⟨m', w1, w2, w3⟩, w4⟩
    · refine ⟨_, _, (by unfold fX9_back; rw [if_neg q1, if_pos q3, if_pos (show nI 0 = (0 : Int32) from rfl), if_pos hk0]), (by unfold fX10_back fX10_in; rw [if_neg q1, if_neg q2, Option.bind_some, if_neg (show ¬ (1 : Int32) = 0 by decide), gi_ok (by omega) (by omega), cl (by omega), if_pos hk1]), ?_, ?_⟩
      · rfl
      exact fin
    · obtain ⟨k, hk, h1, h17, hpp⟩ := w4
      obtain ⟨b, l1, l2, l3⟩ := back_loop (N := N) (i := 0) (g := m_now) (K := m_isKept) (by omega) 188 0 N m_now (by omega) (by omega) (fun y _ => rfl) (fun y hy => absurd hy (by omega))
      obtain ⟨p, c1, c2⟩ := become_ok (N := N) (q := c_images0_history_past) (p := c_history_past) (s0 := c_history_size) hN hk
      rw [← h1] at c1
      have hb : MMarch m' b := MMarch_eq w3 (fun x hx => l3 x (by omega))
      have hq : RHist c c_images0_history_size p b := by
        have h0 : RHist c (nI k) c_images0_history_past b := RHist_eq2 ⟨k, hk, rfl, h17, hpp⟩ (fun y hy => l3 y hy)
        rw [h1]
        exact RHist_past hk h0 c2
      refine ⟨_, _, (by unfold fX9_back fX2_give fX3_become; rw [if_neg q1, if_pos q3, if_pos (show nI 0 = (0 : Int32) from rfl), if_neg (by rw [hk0]; decide), if_pos (show nI 0 = (0 : Int32) from rfl), Option.bind_some, c1, Option.bind_some, Option.bind_some]), (by unfold fX10_back fX10_in; rw [if_neg q1, if_neg q2, Option.bind_some, if_neg (show ¬ (1 : Int32) = 0 by decide), gi_ok (by omega) (by omega), cl (by omega), if_neg (by rw [hk1]; decide), show (0 : Int32) = nI 0 from rfl, l1]), ?_, ?_⟩
      · show c_images0_march_hour = b 1
        rw [w2.2.1, hb.2.1]
      exact ⟨c, m', hc, w1, hT, hcity, hmcity, w2, hb, hq, RImg_eq hi0 rfl (fun y hy => l2 _ (by omega)), RImg_eq hi1 rfl (fun y hy => l2 _ (by omega)), hs, hp, htr, Or.inl rfl⟩
  · have himg := hi1
    rcases himg with ⟨hk0, hk1⟩ | ⟨hk0, hk1, ⟨m', w1, w2, w3⟩, w4⟩
    · refine ⟨_, _, (by unfold fX9_back; rw [if_neg q1, if_pos q3, if_neg (show ¬ nI 1 = (0 : Int32) by decide), gc_ok (show nI 1 = (1 : Int32) from rfl), if_pos hk0]), (by unfold fX10_back fX10_in; rw [if_neg q1, if_neg q2, Option.bind_some, if_neg (show ¬ (1 : Int32) = 0 by decide), gi_ok (by omega) (by omega), cl (by omega), if_pos hk1]), ?_, ?_⟩
      · rfl
      exact fin
    · obtain ⟨k, hk, h1, h17, hpp⟩ := w4
      obtain ⟨b, l1, l2, l3⟩ := back_loop (N := N) (i := 1) (g := m_now) (K := m_isKept) (by omega) 188 0 N m_now (by omega) (by omega) (fun y _ => rfl) (fun y hy => absurd hy (by omega))
      obtain ⟨p, c1, c2⟩ := become_ok (N := N) (q := c_images1_history_past) (p := c_history_past) (s0 := c_history_size) hN hk
      rw [← h1] at c1
      have hb : MMarch m' b := MMarch_eq w3 (fun x hx => l3 x (by omega))
      have hq : RHist c c_images1_history_size p b := by
        have h0 : RHist c (nI k) c_images1_history_past b := RHist_eq2 ⟨k, hk, rfl, h17, hpp⟩ (fun y hy => l3 y hy)
        rw [h1]
        exact RHist_past hk h0 c2
      refine ⟨_, _, (by unfold fX9_back fX2_give fX3_become; rw [if_neg q1, if_pos q3, if_neg (show ¬ nI 1 = (0 : Int32) by decide), gc_ok (show nI 1 = (1 : Int32) from rfl), if_neg (by rw [hk0]; decide), if_neg (show ¬ nI 1 = (0 : Int32) by decide), gc_ok (show nI 1 = (1 : Int32) from rfl), Option.bind_some, c1, Option.bind_some, Option.bind_some]), (by unfold fX10_back fX10_in; rw [if_neg q1, if_neg q2, Option.bind_some, if_neg (show ¬ (1 : Int32) = 0 by decide), gi_ok (by omega) (by omega), cl (by omega), if_neg (by rw [hk1]; decide), show (0 : Int32) = nI 0 from rfl, l1]), ?_, ?_⟩
      · show c_images1_march_hour = b 1
        rw [w2.2.1, hb.2.1]
      exact ⟨c, m', hc, w1, hT, hcity, hmcity, w2, hb, hq, RImg_eq hi0 rfl (fun y hy => l2 _ (by omega)), RImg_eq hi1 rfl (fun y hy => l2 _ (by omega)), hs, hp, htr, Or.inl rfl⟩
