/-! planned, odds -/
theorem pl_agreeb {c : MC} {a : Nat → Nat} {b b' : Nat → Bool} {m : MM} : ∀ n, (∀ i, i < n → b i = b' i) → plS c a b m n = plS c a b' m n
  | 0, _ => rfl
  | n + 1, h => by
    unfold plS
    rw [pl_agreeb n (fun i hi => h i (by omega)), h n (by omega)]
theorem pwalk_ok {N n : Nat} {c : MC} {m : MM} {p : Nat → Nat} {cor str lea : Int32} {fi se ho hoM fe able : Nat → Int32} {far : Nat → Nat → Int32} {z1 z2 z3 z4 z5 z6 q1 q2 q3 q4 q5 q6 : Int32} {W : Nat} (hN : 20 ≤ N) (hn : n ≤ 6) (hc : wfC c) (hcc : CCity c cor str lea fi se ho hoM fe far) (hm : wfM c m) (hmm : CMarch m z1 z2 z3 z4 z5 z6) (hp : ∀ i, i < n → p i < mcL c) (hW : W < 2 ^ 31) (hab : holds (chS p (mmL m) n).1 (chS p (mmL m) n).2.1 able) :
    ∃ y1 y2 y3 y4 y5 y6, fX5_walk N (nI (chS p (mmL m) n).1) able q1 q2 q3 q4 q5 q6 str lea fi se ho hoM fe far z1 z2 z3 z4 z5 z6 (nI W) = some (y1, y2, y3, y4, y5, y6) ∧ CMarch (plS c (chS p (mmL m) n).2.1 W.testBit m (chS p (mmL m) n).1) y1 y2 y3 y4 y5 y6 := by
  have hg := ch_le p (mmL m) n
  unfold fX5_walk fX3_become
  rw [Option.bind_some]
  exact pwalk_loop hN (by omega) hc hcc hW (pl_ok (b := W.testBit) hc hm hp n (Nat.le_refl _)).2.2.2 (pl_all hc hm hp n (Nat.le_refl _)) hab (chS p (mmL m) n).1 0 N z1 z2 z3 z4 z5 z6 (by omega) (by omega) hmm
theorem goPlan_ok {N n : Nat} {c : MC} {m : MM} {p : Nat → Nat} {co st le en ti ho fe far now tried plan : Nat → Int32} {W : Nat} (hN : 20 ≤ N) (hn : n ≤ 6) (hc : wfC c) (hcc : MCity c co st le en ti ho fe far) (hm : wfM c m) (hmm : MMarch m now) (hp : ∀ i, i < n → p i < mcL c) (ht : holds n p plan) (hW : W < 2 ^ 31) :
    ∃ tr', fX10_goPlan N (nI n) st en ti ho fe far now tried plan (nI W) = some (nI (chS p (mmL m) n).1, tr') ∧ MMarch (plS c (chS p (mmL m) n).2.1 (fun i => !W.testBit i) m (chS p (mmL m) n).1) tr' := by
  obtain ⟨b, g1, g2⟩ := mtake_ok (N := N) (tried := tried) hN hmm
  unfold fX10_goPlan
  rw [g1, Option.bind_some, cl3, hmm.2.2.2.1]
  exact goPlan_loop hN hn hc hcc hm hp ht hW n 0 N b (by omega) (by omega) g2
theorem plan_of {b : Nat} {size msize : Int32} {q Q : Nat → Int32} (h : RPlan b size msize q Q) (hb : b ≤ 6) : ∃ n p, n ≤ 6 ∧ size = nI n ∧ msize = nI n ∧ (∀ i, i < n → p i < b) ∧ holds n p q ∧ holds n p Q := by
  obtain ⟨k, h1, h2, h3, h4⟩ := h
  refine ⟨k, fun i => (q i).toNatClampNeg, h1, h2, h3, fun i hi => ?_, fun i hi => ?_, fun i hi => ?_⟩
  · obtain ⟨x, a1, a2, a3⟩ := h4 i hi
    show (q i).toNatClampNeg < b
    rw [a2, cl (by omega)]
    exact a1
  · obtain ⟨x, a1, a2, a3⟩ := h4 i hi
    show q i = nI (q i).toNatClampNeg
    rw [a2, cl (by omega)]
  · obtain ⟨x, a1, a2, a3⟩ := h4 i hi
    show Q i = nI (q i).toNatClampNeg
    rw [a2, cl (by omega), a3]
theorem every_ok {N g : Nat} (hg : g ≤ 6) : fX5_everybody N (nI g) = some (nI (2 ^ g - 1)) := by
  unfold fX5_everybody
  rw [one_shl (by omega), show (1 : Int32) = nI 1 from rfl, pk_sub (Nat.one_le_two_pow)]
theorem pw_lt {g : Nat} (hg : g ≤ 6) : 2 ^ g ≤ 64 := Nat.pow_le_pow_right (n := 2) (by omega) hg
theorem every_bits {c : MC} {a : Nat → Nat} {m : MM} {g : Nat} : plS c a (2 ^ g - 1).testBit m g = plS c a (fun i => !(0 : Nat).testBit i) m g :=
  pl_agreeb g (fun i hi => by rw [Nat.testBit_two_pow_sub_one, Nat.zero_testBit]; simp [hi])
set_option maxHeartbeats 4000000 in
theorem sim_planned (N : Nat) (hN : 1000 ≤ N) (c_traced : Int64) (c_text_length c_text_place c_text_start c_text_token c_text_value : Int32) (c_text_bytes : Nat → Int32) (c_map_corners c_map_streets c_map_leaders : Int32) (c_map_first c_map_second c_map_hours c_map_home c_map_feet : Nat → Int32) (c_map_far : Nat → Nat → Int32) (c_draft_corners c_draft_streets c_draft_leaders : Int32) (c_draft_first c_draft_second c_draft_hours c_draft_home c_draft_feet : Nat → Int32) (c_draft_far : Nat → Nat → Int32) (c_march_at c_march_hour c_march_fines c_march_led c_march_taken c_march_shut c_history_size : Int32) (c_history_past : Nat → Nat → Int32) (c_images0_kept c_images0_march_at c_images0_march_hour c_images0_march_fines c_images0_march_led c_images0_march_taken c_images0_march_shut c_images0_history_size : Int32) (c_images0_history_past : Nat → Nat → Int32) (c_images1_kept c_images1_march_at c_images1_march_hour c_images1_march_fines c_images1_march_led c_images1_march_taken c_images1_march_shut c_images1_history_size : Int32) (c_images1_history_past : Nat → Nat → Int32) (c_row_size c_row_homes : Int32) (c_row_told c_row_leading c_row_ended : Nat → Int32) (c_row_march_at c_row_march_hour c_row_march_fines c_row_march_led c_row_march_taken c_row_march_shut c_outlook_fresh c_outlook_size c_outlook_door c_outlook_fines c_outlook_hours c_outlook_longestWalked c_outlook_walked c_outlook_ends c_outlook_happy c_outlook_leastBread c_outlook_mostBread c_outlook_hides : Int32) (c_outlook_best c_outlook_longest : Nat → Int32) (c_sights_size : Int32) (c_sights_as c_sights_corner : Nat → Int32) (c_plan_size c_plan_going : Int32) (c_plan_told c_plan_able : Nat → Int32) (c_plan_march_at c_plan_march_hour c_plan_march_fines c_plan_march_led c_plan_march_taken c_plan_march_shut : Int32) (m_trace : Int64) (m_typed m_at m_start m_sort m_value m_fault m_rowLong m_homes m_bestValue m_seen m_planMany : Int32) (m_text m_corners m_streets m_ends m_time m_leaders m_home m_feet m_far m_now m_isKept m_tried m_row m_who m_then m_best m_seenAs m_seenAt m_plan : Nat → Int32) (x1 : Int32) (h : (RR c_traced c_text_length c_text_place c_text_start c_text_token c_text_value c_text_bytes c_map_corners c_map_streets c_map_leaders c_map_first c_map_second c_map_hours c_map_home c_map_feet c_map_far c_draft_corners c_draft_streets c_draft_leaders c_draft_first c_draft_second c_draft_hours c_draft_home c_draft_feet c_draft_far c_march_at c_march_hour c_march_fines c_march_led c_march_taken c_march_shut c_history_size c_history_past c_images0_kept c_images0_march_at c_images0_march_hour c_images0_march_fines c_images0_march_led c_images0_march_taken c_images0_march_shut c_images0_history_size c_images0_history_past c_images1_kept c_images1_march_at c_images1_march_hour c_images1_march_fines c_images1_march_led c_images1_march_taken c_images1_march_shut c_images1_history_size c_images1_history_past c_row_size c_row_homes c_row_told c_row_leading c_row_ended c_row_march_at c_row_march_hour c_row_march_fines c_row_march_led c_row_march_taken c_row_march_shut c_outlook_fresh c_outlook_size c_outlook_door c_outlook_fines c_outlook_hours c_outlook_longestWalked c_outlook_walked c_outlook_ends c_outlook_happy c_outlook_leastBread c_outlook_mostBread c_outlook_hides c_outlook_best c_outlook_longest c_sights_size c_sights_as c_sights_corner c_plan_size c_plan_going c_plan_told c_plan_able c_plan_march_at c_plan_march_hour c_plan_march_fines c_plan_march_led c_plan_march_taken c_plan_march_shut m_trace m_typed m_at m_start m_sort m_value m_fault m_rowLong m_homes m_bestValue m_seen m_planMany m_text m_corners m_streets m_ends m_time m_leaders m_home m_feet m_far m_now m_isKept m_tried m_row m_who m_then m_best m_seenAs m_seenAt m_plan)) : ∃ u v, (fX9_planned N c_map_corners c_map_streets c_map_leaders c_map_first c_map_second c_map_hours c_map_home c_map_feet c_map_far c_march_at c_march_hour c_march_fines c_march_led c_march_taken c_march_shut c_plan_size c_plan_going c_plan_told c_plan_able c_plan_march_at c_plan_march_hour c_plan_march_fines c_plan_march_led c_plan_march_taken c_plan_march_shut x1) = some u ∧ (fX10_planned N m_planMany m_corners m_streets m_ends m_time m_home m_feet m_far m_now m_tried m_plan x1) = some v ∧ u.1 = v.1 ∧ (RR c_traced c_text_length c_text_place c_text_start c_text_token c_text_value c_text_bytes c_map_corners c_map_streets c_map_leaders c_map_first c_map_second c_map_hours c_map_home c_map_feet c_map_far c_draft_corners c_draft_streets c_draft_leaders c_draft_first c_draft_second c_draft_hours c_draft_home c_draft_feet c_draft_far c_march_at c_march_hour c_march_fines c_march_led c_march_taken c_march_shut c_history_size c_history_past c_images0_kept c_images0_march_at c_images0_march_hour c_images0_march_fines c_images0_march_led c_images0_march_taken c_images0_march_shut c_images0_history_size c_images0_history_past c_images1_kept c_images1_march_at c_images1_march_hour c_images1_march_fines c_images1_march_led c_images1_march_taken c_images1_march_shut c_images1_history_size c_images1_history_past c_row_size c_row_homes c_row_told c_row_leading c_row_ended c_row_march_at c_row_march_hour c_row_march_fines c_row_march_led c_row_march_taken c_row_march_shut c_outlook_fresh c_outlook_size c_outlook_door c_outlook_fines c_outlook_hours c_outlook_longestWalked c_outlook_walked c_outlook_ends c_outlook_happy c_outlook_leastBread c_outlook_mostBread c_outlook_hides c_outlook_best c_outlook_longest c_sights_size c_sights_as c_sights_corner c_plan_size u.2.1 c_plan_told u.2.2.1 u.2.2.2.1 u.2.2.2.2.1 u.2.2.2.2.2.1 u.2.2.2.2.2.2.1 u.2.2.2.2.2.2.2.1 u.2.2.2.2.2.2.2.2 m_trace m_typed m_at m_start m_sort m_value m_fault m_rowLong m_homes m_bestValue m_seen m_planMany m_text m_corners m_streets m_ends m_time m_leaders m_home m_feet m_far m_now m_isKept v.2 m_row m_who m_then m_best m_seenAs m_seenAt m_plan) := by
  obtain ⟨c, m, hc, hm, hT, hcity, hmcity, hmarch, hnow, hh, hi0, hi1, hs, hp, htr, ho⟩ := h
  obtain ⟨n, p, n1, rfl, rfl, n4, n5, n6⟩ := plan_of hp hc.2.2.1
  obtain ⟨e1, e2, e3, e4, e5, T, e6, hT2⟩ := hmarch
  have hmarch : CMarch m c_march_at c_march_hour c_march_fines c_march_led c_march_taken c_march_shut := ⟨e1, e2, e3, e4, e5, T, e6, hT2⟩
  have hg := ch_le p (mmL m) n
  have hw2 := pw_lt (show (chS p (mmL m) n).1 ≤ 6 by omega)
  obtain ⟨b, f1, f2⟩ := choose_ok (N := N) (z := c_plan_going) (able := c_plan_able) (by omega) n1 hc hm n4 n5
  rw [← e4] at f1
  obtain ⟨y1, y2, y3, y4, y5, y6, w1, w2⟩ := pwalk_ok (N := N) (q1 := c_plan_march_at) (q2 := c_plan_march_hour) (q3 := c_plan_march_fines) (q4 := c_plan_march_led) (q5 := c_plan_march_taken) (q6 := c_plan_march_shut) (W := 2 ^ (chS p (mmL m) n).1 - 1) (by omega) n1 hc hcity hm hmarch n4 (by omega) f2
  obtain ⟨tr, g1, g2⟩ := goPlan_ok (N := N) (W := 0) (tried := m_tried) (by omega) n1 hc hmcity hm hnow n4 n6 (by omega)
  rw [every_bits] at w2
  have g1 : fX10_goPlan N (nI n) m_streets m_ends m_time m_home m_feet m_far m_now m_tried m_plan (0 : Int32) = _ := g1
  have w3 := every_ok (N := N) (show (chS p (mmL m) n).1 ≤ 6 by omega)
  have hC := hc.1
  by_cases qn : x1 < 0
  · refine ⟨_, _, (by unfold fX9_planned; rw [if_pos qn]), (by unfold fX10_planned fX10_in; rw [if_pos qn, Option.bind_some, if_pos rfl]), rfl, ?_⟩
    exact ⟨c, m, hc, hm, hT, hcity, hmcity, hmarch, hnow, hh, hi0, hi1, hs, hp, htr, ho⟩
  by_cases q3 : x1 ≤ (3 : Int32)
  · have q4 : ¬ (3 : Int32) < x1 := fun z => Int32.not_lt.mpr q3 z
    have hcl : ∀ r, ((fX5_choose N (nI n) c_plan_going c_plan_told c_plan_able c_march_led).bind fun u3 => ((fX5_everybody N u3.1).bind fun u4 => ((fX5_walk N u3.1 u3.2 c_plan_march_at c_plan_march_hour c_plan_march_fines c_plan_march_led c_plan_march_taken c_plan_march_shut c_map_streets c_map_leaders c_map_first c_map_second c_map_hours c_map_home c_map_feet c_map_far c_march_at c_march_hour c_march_fines c_march_led c_march_taken c_march_shut u4).bind fun u5 => (if x1 = (0 : Int32) then ((fX9_whereabouts N c_map_corners u5.1).bind fun u7 => some (u7, u3.1, u3.2, u5.1, u5.2.1, u5.2.2.1, u5.2.2.2.1, u5.2.2.2.2.1, u5.2.2.2.2.2)) else (if x1 = (1 : Int32) then some ((u5.2.1 - c_march_hour), u3.1, u3.2, u5.1, u5.2.1, u5.2.2.1, u5.2.2.2.1, u5.2.2.2.2.1, u5.2.2.2.2.2) else (if x1 = (2 : Int32) then some ((u5.2.2.1 - c_march_fines), u3.1, u3.2, u5.1, u5.2.1, u5.2.2.1, u5.2.2.2.1, u5.2.2.2.2.1, u5.2.2.2.2.2) else some (u3.1, u3.1, u3.2, u5.1, u5.2.1, u5.2.2.1, u5.2.2.2.1, u5.2.2.2.2.1, u5.2.2.2.2.2))))))) = r ↔ (if x1 = (0 : Int32) then ((fX9_whereabouts N c_map_corners y1).bind fun u7 => some (u7, nI (chS p (mmL m) n).1, b, y1, y2, y3, y4, y5, y6)) else (if x1 = (1 : Int32) then some ((y2 - c_march_hour), nI (chS p (mmL m) n).1, b, y1, y2, y3, y4, y5, y6) else (if x1 = (2 : Int32) then some ((y3 - c_march_fines), nI (chS p (mmL m) n).1, b, y1, y2, y3, y4, y5, y6) else some (nI (chS p (mmL m) n).1, nI (chS p (mmL m) n).1, b, y1, y2, y3, y4, y5, y6)))) = r := fun r => by
      rw [f1, Option.bind_some]
      dsimp only
      rw [w3, Option.bind_some, w1, Option.bind_some]
    obtain ⟨v1, v2, v3, v4, v5, v6⟩ := w2
    obtain ⟨k1, k2, k3, k4, k5, k6⟩ := g2
    obtain ⟨j1, j2, j3, j4, j5, j6⟩ := hnow
    have hnow : MMarch m m_now := ⟨j1, j2, j3, j4, j5, j6⟩
    by_cases r0 : x1 = (0 : Int32)
    · by_cases qc : mcC c = 0
      · refine ⟨_, _, (by unfold fX9_planned; rw [if_neg qn, if_pos q3]; refine (hcl _).mpr ?_; unfold fX9_whereabouts; rw [if_pos r0, hcity.1, qc, if_pos (by decide), Option.bind_some]), (by unfold fX10_planned fX10_in; rw [if_neg qn, if_neg q4, Option.bind_some, if_neg (by decide), g1, Option.bind_some, if_pos r0, cl0, hmcity.1, qc, if_pos (by decide)]), ?_, ?_⟩
        · rfl
        exact ⟨c, m, hc, hm, hT, hcity, hmcity, hmarch, hnow, hh, hi0, hi1, hs, hp, htr, ho⟩
      · refine ⟨_, _, (by unfold fX9_planned; rw [if_neg qn, if_pos q3]; refine (hcl _).mpr ?_; unfold fX9_whereabouts; rw [if_pos r0, hcity.1, if_neg (nI_nle (by omega) (by omega)), Option.bind_some]), (by unfold fX10_planned fX10_in; rw [if_neg qn, if_neg q4, Option.bind_some, if_neg (by decide), g1, Option.bind_some, if_pos r0, cl0, hmcity.1, if_neg (nI_ne0 (by omega) (by omega))]), ?_, ?_⟩
        · show y1 = tr 0
          rw [v1, k1]
        exact ⟨c, m, hc, hm, hT, hcity, hmcity, hmarch, hnow, hh, hi0, hi1, hs, hp, htr, ho⟩
    by_cases r1 : x1 = (1 : Int32)
    · refine ⟨_, _, (by unfold fX9_planned; rw [if_neg qn, if_pos q3]; refine (hcl _).mpr ?_; rw [if_neg r0, if_pos r1]), (by unfold fX10_planned fX10_in; rw [if_neg qn, if_neg q4, Option.bind_some, if_neg (by decide), g1, Option.bind_some, if_neg r0, if_pos r1, cl1]), ?_, ?_⟩
      · show y2 - c_march_hour = tr 1 - m_now 1
        rw [v2, k2, e2, j2]
      exact ⟨c, m, hc, hm, hT, hcity, hmcity, hmarch, hnow, hh, hi0, hi1, hs, hp, htr, ho⟩
    by_cases r2 : x1 = (2 : Int32)
    · refine ⟨_, _, (by unfold fX9_planned; rw [if_neg qn, if_pos q3]; refine (hcl _).mpr ?_; rw [if_neg r0, if_neg r1, if_pos r2]), (by unfold fX10_planned fX10_in; rw [if_neg qn, if_neg q4, Option.bind_some, if_neg (by decide), g1, Option.bind_some, if_neg r0, if_neg r1, if_pos r2, cl2]), ?_, ?_⟩
      · show y3 - c_march_fines = tr 2 - m_now 2
        rw [v3, k3, e3, j3]
      exact ⟨c, m, hc, hm, hT, hcity, hmcity, hmarch, hnow, hh, hi0, hi1, hs, hp, htr, ho⟩
    · refine ⟨_, _, (by unfold fX9_planned; rw [if_neg qn, if_pos q3]; refine (hcl _).mpr ?_; rw [if_neg r0, if_neg r1, if_neg r2]), (by unfold fX10_planned fX10_in; rw [if_neg qn, if_neg q4, Option.bind_some, if_neg (by decide), g1, Option.bind_some, if_neg r0, if_neg r1, if_neg r2]), ?_, ?_⟩
      · rfl
      exact ⟨c, m, hc, hm, hT, hcity, hmcity, hmarch, hnow, hh, hi0, hi1, hs, hp, htr, ho⟩
  · have q4 : (3 : Int32) < x1 := Int32.not_le.mp q3
    refine ⟨_, _, (by unfold fX9_planned; rw [if_neg qn, if_neg q3]), (by unfold fX10_planned fX10_in; rw [if_neg qn, if_pos q4, Option.bind_some, if_pos rfl]), rfl, ?_⟩
    exact ⟨c, m, hc, hm, hT, hcity, hmcity, hmarch, hnow, hh, hi0, hi1, hs, hp, htr, ho⟩
