/-! order, most, rows -/
theorem bF_some {c : MC} {n : Nat} {m : MM} : ∀ (L : List (Nat → Nat)) (v : Nat × Nat × Nat × (Nat → Nat)), ∃ w, L.foldl (b1 c n m) (some v) = some w
  | [], v => ⟨v, rfl⟩
  | t :: L, v => by
    show ∃ w, L.foldl (b1 c n m) (b1 c n m (some v) t) = some w
    have h : ∃ w, b1 c n m (some v) t = some w := by
      unfold b1 bst
      dsimp only
      repeat' split
      all_goals exact ⟨_, rfl⟩
    obtain ⟨w, h⟩ := h
    rw [h]
    exact bF_some L w
theorem lF_some {c : MC} {n : Nat} {m : MM} : ∀ (L : List (Nat → Nat)) (v : Nat × (Nat → Nat)), ∃ w, L.foldl (l1 c n m) (some v) = some w
  | [], v => ⟨v, rfl⟩
  | t :: L, v => by
    show ∃ w, L.foldl (l1 c n m) (l1 c n m (some v) t) = some w
    have h : ∃ w, l1 c n m (some v) t = some w := by
      unfold l1 lst
      dsimp only
      split
      · exact ⟨_, rfl⟩
      · exact ⟨_, rfl⟩
    obtain ⟨w, h⟩ := h
    rw [h]
    exact lF_some L w
theorem oF_some {c : MC} {n : Nat} {m : MM} : ∀ (L : List (Nat → Nat)) (o : RO) (v : Nat), o.2.2.2.1 = some v → ∃ w, (L.foldl (o1 c n m) o).2.2.2.1 = some w
  | [], _, v, h => ⟨v, h⟩
  | t :: L, o, v, _ => oF_some L (o1 c n m o t) _ rfl
theorem LL_cons (c : MC) (m : MM) : ∃ L, LL c m = tt c m :: L := ⟨_, rfl⟩
theorem best_some (c : MC) (m : MM) : ∃ v, bestF c m = some v := by
  obtain ⟨L, h⟩ := LL_cons c m
  unfold bestF
  rw [h]
  exact bF_some L _
theorem long_some (c : MC) (m : MM) : ∃ v, longF c m = some v := by
  obtain ⟨L, h⟩ := LL_cons c m
  unfold longF
  rw [h]
  exact lF_some L _
theorem all_some (c : MC) (m : MM) : ∃ v, (allF c m).2.2.2.1 = some v := by
  obtain ⟨L, h⟩ := LL_cons c m
  unfold allF
  rw [h]
  exact oF_some L _ _ rfl
/-- what was walked stays walked -/
theorem goS_K (c : MC) (home s : Nat) : ∀ (n : Nat) (m : MM), mmK m s ≠ 0 → mmK (goS c home n m).2 s ≠ 0
  | 0, _, h => h
  | n + 1, m, h => by
    have h2 : ∀ w, mmK (stepS c m w) s ≠ 0 := fun w => by
      show (if s = w.1 then mmK m s ||| 2 ^ w.2 else mmK m s) ≠ 0
      split
      · have := Nat.left_le_or (n := mmK m s) (m := 2 ^ w.2)
        omega
      · exact h
    unfold goS
    cases wayS c m home (mcS c) with
    | none => exact h
    | some w =>
      dsimp only
      split
      · exact h2 w
      · exact goS_K c home s n _ (h2 w)
theorem runS_K (c : MC) (n s : Nat) : ∀ (j k : Nat) (w : Nat → Nat) (m : MM) (th : Nat → Nat) (ho : Nat), mmK m s ≠ 0 → mmK (runS c n j k w m th ho).2.1 s ≠ 0
  | 0, _, _, _, _, _, h => h
  | j + 1, k, w, m, th, ho, h => by
    unfold runS
    exact runS_K c n s j (k + 1) _ _ _ _ (goS_K c _ s _ m h)
theorem wlk_run (c : MC) (n : Nat) (m : MM) (t : Nat → Nat) (i : Nat) (h : (wlk m).testBit i = true) : (wlk (rr c n m t).2.1).testBit i = true := by
  unfold wlk at h ⊢
  rw [wlk_bit] at h ⊢
  simp only [Bool.and_eq_true, decide_eq_true_eq] at h ⊢
  exact ⟨h.1, runS_K c n i n 0 t m _ 0 h.2⟩
theorem oF_more {c : MC} {n : Nat} {m : MM} (i : Nat) : ∀ (L : List (Nat → Nat)) (o : RO), o.1.testBit i = true → (L.foldl (o1 c n m) o).1.testBit i = true
  | [], _, h => h
  | t :: L, o, h => oF_more i L (o1 c n m o t) (by
    show (o.1 ||| wlk _).testBit i = true
    rw [Nat.testBit_or, h]
    rfl)
theorem all_now {c : MC} {m : MM} (i : Nat) (h : (wlk m).testBit i = true) : (allF c m).1.testBit i = true := by
  obtain ⟨L, e⟩ := LL_cons c m
  unfold allF
  rw [e]
  refine oF_more i L _ ?_
  show (0 ||| wlk _).testBit i = true
  rw [Nat.zero_or]
  exact wlk_run c _ m _ i h
section MOK
variable {N : Nat} {c : MC} {m : MM} {co st le en ti ho fe far now : Nat → Int32}
theorem mfirst_ok (hN : 1000 ≤ N) (hc : wfC c) (hcc : MCity c co st le en ti ho fe far) (hm : wfM c m) (hmm : MMarch m now) (rl : Int32) (row : Nat → Int32) : ∃ b, fX10_firstRow N rl le now row = some (nI (nn c m), b) ∧ holds (nn c m) (tt c m) b :=
  first_ok (by omega) hc.2.2.1 (by have := hm.2.1; have : 2 ^ mcL c ≤ 2 ^ 6 := Nat.pow_le_pow_right (by omega) hc.2.2.1; omega) hcc.2.2.1 hmm.2.2.2.1
theorem findOrder_ok (hN : 1000 ≤ N) (hc : wfC c) (hcc : MCity c co st le en ti ho fe far) (hm : wfM c m) (hmm : MMarch m now) (rl homes val : Int32) (tried row who then' best : Nat → Int32) : ∃ (ho' val' : Int32) (tr' rw' wh' th' be' : Nat → Int32), fX10_findOrder N rl homes val co st en ti le ho fe far now tried row who then' best = some (nI (nn c m), ho', val', tr', rw', wh', th', be') ∧ mbrep (nn c m) (bestF c m) val' be' := by
  obtain ⟨g1, g2, g3, g4⟩ := nn_ok hc hm
  obtain ⟨b, f1, f2⟩ := mfirst_ok hN hc hcc hm hmm rl row
  unfold fX10_findOrder
  rw [f1, Option.bind_some]
  exact forder_loop hN g1 hc hcc hm hmm 720 N (tt c m) none homes (-9) tried b who then' best (by omega) g2 g3 g4 f2 rfl
end MOK
theorem lt_n3 {j : Nat} (hj : j < 2 ^ 31) {z : Int32} (hz : z < 0) : ¬ nI j < z := fun h => nI_pos hj (Int32.lt_trans h hz)
set_option maxHeartbeats 4000000 in
theorem sim_order (N : Nat) (hN : 1000 ≤ N) (c_traced : Int64) (c_text_length c_text_place c_text_start c_text_token c_text_value : Int32) (c_text_bytes : Nat → Int32) (c_map_corners c_map_streets c_map_leaders : Int32) (c_map_first c_map_second c_map_hours c_map_home c_map_feet : Nat → Int32) (c_map_far : Nat → Nat → Int32) (c_draft_corners c_draft_streets c_draft_leaders : Int32) (c_draft_first c_draft_second c_draft_hours c_draft_home c_draft_feet : Nat → Int32) (c_draft_far : Nat → Nat → Int32) (c_march_at c_march_hour c_march_fines c_march_led c_march_taken c_march_shut c_history_size : Int32) (c_history_past : Nat → Nat → Int32) (c_images0_kept c_images0_march_at c_images0_march_hour c_images0_march_fines c_images0_march_led c_images0_march_taken c_images0_march_shut c_images0_history_size : Int32) (c_images0_history_past : Nat → Nat → Int32) (c_images1_kept c_images1_march_at c_images1_march_hour c_images1_march_fines c_images1_march_led c_images1_march_taken c_images1_march_shut c_images1_history_size : Int32) (c_images1_history_past : Nat → Nat → Int32) (c_row_size c_row_homes : Int32) (c_row_told c_row_leading c_row_ended : Nat → Int32) (c_row_march_at c_row_march_hour c_row_march_fines c_row_march_led c_row_march_taken c_row_march_shut c_outlook_fresh c_outlook_size c_outlook_door c_outlook_fines c_outlook_hours c_outlook_longestWalked c_outlook_walked c_outlook_ends c_outlook_happy c_outlook_leastBread c_outlook_mostBread c_outlook_hides : Int32) (c_outlook_best c_outlook_longest : Nat → Int32) (c_sights_size : Int32) (c_sights_as c_sights_corner : Nat → Int32) (c_plan_size c_plan_going : Int32) (c_plan_told c_plan_able : Nat → Int32) (c_plan_march_at c_plan_march_hour c_plan_march_fines c_plan_march_led c_plan_march_taken c_plan_march_shut : Int32) (m_trace : Int64) (m_typed m_at m_start m_sort m_value m_fault m_rowLong m_homes m_bestValue m_seen m_planMany : Int32) (m_text m_corners m_streets m_ends m_time m_leaders m_home m_feet m_far m_now m_isKept m_tried m_row m_who m_then m_best m_seenAs m_seenAt m_plan : Nat → Int32) (x1 : Int32) (h : (RR c_traced c_text_length c_text_place c_text_start c_text_token c_text_value c_text_bytes c_map_corners c_map_streets c_map_leaders c_map_first c_map_second c_map_hours c_map_home c_map_feet c_map_far c_draft_corners c_draft_streets c_draft_leaders c_draft_first c_draft_second c_draft_hours c_draft_home c_draft_feet c_draft_far c_march_at c_march_hour c_march_fines c_march_led c_march_taken c_march_shut c_history_size c_history_past c_images0_kept c_images0_march_at c_images0_march_hour c_images0_march_fines c_images0_march_led c_images0_march_taken c_images0_march_shut c_images0_history_size c_images0_history_past c_images1_kept c_images1_march_at c_images1_march_hour c_images1_march_fines c_images1_march_led c_images1_march_taken c_images1_march_shut c_images1_history_size c_images1_history_past c_row_size c_row_homes c_row_told c_row_leading c_row_ended c_row_march_at c_row_march_hour c_row_march_fines c_row_march_led c_row_march_taken c_row_march_shut c_outlook_fresh c_outlook_size c_outlook_door c_outlook_fines c_outlook_hours c_outlook_longestWalked c_outlook_walked c_outlook_ends c_outlook_happy c_outlook_leastBread c_outlook_mostBread c_outlook_hides c_outlook_best c_outlook_longest c_sights_size c_sights_as c_sights_corner c_plan_size c_plan_going c_plan_told c_plan_able c_plan_march_at c_plan_march_hour c_plan_march_fines c_plan_march_led c_plan_march_taken c_plan_march_shut m_trace m_typed m_at m_start m_sort m_value m_fault m_rowLong m_homes m_bestValue m_seen m_planMany m_text m_corners m_streets m_ends m_time m_leaders m_home m_feet m_far m_now m_isKept m_tried m_row m_who m_then m_best m_seenAs m_seenAt m_plan)) : ∃ u v, (fX9_order N c_map_corners c_map_streets c_map_leaders c_map_first c_map_second c_map_hours c_map_home c_map_feet c_map_far c_march_at c_march_hour c_march_fines c_march_led c_march_taken c_march_shut c_row_size c_row_homes c_row_told c_row_leading c_row_ended c_row_march_at c_row_march_hour c_row_march_fines c_row_march_led c_row_march_taken c_row_march_shut c_outlook_fresh c_outlook_size c_outlook_door c_outlook_fines c_outlook_hours c_outlook_longestWalked c_outlook_walked c_outlook_ends c_outlook_happy c_outlook_leastBread c_outlook_mostBread c_outlook_hides c_outlook_best c_outlook_longest x1) = some u ∧ (fX10_order N m_rowLong m_homes m_bestValue m_corners m_streets m_ends m_time m_leaders m_home m_feet m_far m_now m_tried m_row m_who m_then m_best x1) = some v ∧ u.1 = v.1 ∧ (RR c_traced c_text_length c_text_place c_text_start c_text_token c_text_value c_text_bytes c_map_corners c_map_streets c_map_leaders c_map_first c_map_second c_map_hours c_map_home c_map_feet c_map_far c_draft_corners c_draft_streets c_draft_leaders c_draft_first c_draft_second c_draft_hours c_draft_home c_draft_feet c_draft_far c_march_at c_march_hour c_march_fines c_march_led c_march_taken c_march_shut c_history_size c_history_past c_images0_kept c_images0_march_at c_images0_march_hour c_images0_march_fines c_images0_march_led c_images0_march_taken c_images0_march_shut c_images0_history_size c_images0_history_past c_images1_kept c_images1_march_at c_images1_march_hour c_images1_march_fines c_images1_march_led c_images1_march_taken c_images1_march_shut c_images1_history_size c_images1_history_past u.2.1 u.2.2.1 u.2.2.2.1 u.2.2.2.2.1 u.2.2.2.2.2.1 u.2.2.2.2.2.2.1 u.2.2.2.2.2.2.2.1 u.2.2.2.2.2.2.2.2.1 u.2.2.2.2.2.2.2.2.2.1 u.2.2.2.2.2.2.2.2.2.2.1 u.2.2.2.2.2.2.2.2.2.2.2.1 u.2.2.2.2.2.2.2.2.2.2.2.2.1 u.2.2.2.2.2.2.2.2.2.2.2.2.2.1 u.2.2.2.2.2.2.2.2.2.2.2.2.2.2.1 u.2.2.2.2.2.2.2.2.2.2.2.2.2.2.2.1 u.2.2.2.2.2.2.2.2.2.2.2.2.2.2.2.2.1 u.2.2.2.2.2.2.2.2.2.2.2.2.2.2.2.2.2.1 u.2.2.2.2.2.2.2.2.2.2.2.2.2.2.2.2.2.2.1 u.2.2.2.2.2.2.2.2.2.2.2.2.2.2.2.2.2.2.2.1 u.2.2.2.2.2.2.2.2.2.2.2.2.2.2.2.2.2.2.2.2.1 u.2.2.2.2.2.2.2.2.2.2.2.2.2.2.2.2.2.2.2.2.2.1 u.2.2.2.2.2.2.2.2.2.2.2.2.2.2.2.2.2.2.2.2.2.2.1 u.2.2.2.2.2.2.2.2.2.2.2.2.2.2.2.2.2.2.2.2.2.2.2.1 u.2.2.2.2.2.2.2.2.2.2.2.2.2.2.2.2.2.2.2.2.2.2.2.2.1 u.2.2.2.2.2.2.2.2.2.2.2.2.2.2.2.2.2.2.2.2.2.2.2.2.2 c_sights_size c_sights_as c_sights_corner c_plan_size c_plan_going c_plan_told c_plan_able c_plan_march_at c_plan_march_hour c_plan_march_fines c_plan_march_led c_plan_march_taken c_plan_march_shut m_trace m_typed m_at m_start m_sort m_value m_fault v.2.1 v.2.2.1 v.2.2.2.1 m_seen m_planMany m_text m_corners m_streets m_ends m_time m_leaders m_home m_feet m_far m_now m_isKept v.2.2.2.2.1 v.2.2.2.2.2.1 v.2.2.2.2.2.2.1 v.2.2.2.2.2.2.2.1 v.2.2.2.2.2.2.2.2 m_seenAs m_seenAt m_plan) := by
  obtain ⟨c, m, hc, hm, hT, hcity, hmcity, hmarch, hnow, hh, hi0, hi1, hs, hp, htr, ho⟩ := h
  have bad : (x1 < (-3 : Int32) ∨ (5 : Int32) < x1 ∧ ¬ x1 < (6 : Int32)) → ∃ u v, (fX9_order N c_map_corners c_map_streets c_map_leaders c_map_first c_map_second c_map_hours c_map_home c_map_feet c_map_far c_march_at c_march_hour c_march_fines c_march_led c_march_taken c_march_shut c_row_size c_row_homes c_row_told c_row_leading c_row_ended c_row_march_at c_row_march_hour c_row_march_fines c_row_march_led c_row_march_taken c_row_march_shut c_outlook_fresh c_outlook_size c_outlook_door c_outlook_fines c_outlook_hours c_outlook_longestWalked c_outlook_walked c_outlook_ends c_outlook_happy c_outlook_leastBread c_outlook_mostBread c_outlook_hides c_outlook_best c_outlook_longest x1) = some u ∧ (fX10_order N m_rowLong m_homes m_bestValue m_corners m_streets m_ends m_time m_leaders m_home m_feet m_far m_now m_tried m_row m_who m_then m_best x1) = some v ∧ u.1 = v.1 ∧ (RR c_traced c_text_length c_text_place c_text_start c_text_token c_text_value c_text_bytes c_map_corners c_map_streets c_map_leaders c_map_first c_map_second c_map_hours c_map_home c_map_feet c_map_far c_draft_corners c_draft_streets c_draft_leaders c_draft_first c_draft_second c_draft_hours c_draft_home c_draft_feet c_draft_far c_march_at c_march_hour c_march_fines c_march_led c_march_taken c_march_shut c_history_size c_history_past c_images0_kept c_images0_march_at c_images0_march_hour c_images0_march_fines c_images0_march_led c_images0_march_taken c_images0_march_shut c_images0_history_size c_images0_history_past c_images1_kept c_images1_march_at c_images1_march_hour c_images1_march_fines c_images1_march_led c_images1_march_taken c_images1_march_shut c_images1_history_size c_images1_history_past u.2.1 u.2.2.1 u.2.2.2.1 u.2.2.2.2.1 u.2.2.2.2.2.1 u.2.2.2.2.2.2.1 u.2.2.2.2.2.2.2.1 u.2.2.2.2.2.2.2.2.1 u.2.2.2.2.2.2.2.2.2.1 u.2.2.2.2.2.2.2.2.2.2.1 u.2.2.2.2.2.2.2.2.2.2.2.1 u.2.2.2.2.2.2.2.2.2.2.2.2.1 u.2.2.2.2.2.2.2.2.2.2.2.2.2.1 u.2.2.2.2.2.2.2.2.2.2.2.2.2.2.1 u.2.2.2.2.2.2.2.2.2.2.2.2.2.2.2.1 u.2.2.2.2.2.2.2.2.2.2.2.2.2.2.2.2.1 u.2.2.2.2.2.2.2.2.2.2.2.2.2.2.2.2.2.1 u.2.2.2.2.2.2.2.2.2.2.2.2.2.2.2.2.2.2.1 u.2.2.2.2.2.2.2.2.2.2.2.2.2.2.2.2.2.2.2.1 u.2.2.2.2.2.2.2.2.2.2.2.2.2.2.2.2.2.2.2.2.1 u.2.2.2.2.2.2.2.2.2.2.2.2.2.2.2.2.2.2.2.2.2.1 u.2.2.2.2.2.2.2.2.2.2.2.2.2.2.2.2.2.2.2.2.2.2.1 u.2.2.2.2.2.2.2.2.2.2.2.2.2.2.2.2.2.2.2.2.2.2.2.1 u.2.2.2.2.2.2.2.2.2.2.2.2.2.2.2.2.2.2.2.2.2.2.2.2.1 u.2.2.2.2.2.2.2.2.2.2.2.2.2.2.2.2.2.2.2.2.2.2.2.2.2 c_sights_size c_sights_as c_sights_corner c_plan_size c_plan_going c_plan_told c_plan_able c_plan_march_at c_plan_march_hour c_plan_march_fines c_plan_march_led c_plan_march_taken c_plan_march_shut m_trace m_typed m_at m_start m_sort m_value m_fault v.2.1 v.2.2.1 v.2.2.2.1 m_seen m_planMany m_text m_corners m_streets m_ends m_time m_leaders m_home m_feet m_far m_now m_isKept v.2.2.2.2.1 v.2.2.2.2.2.1 v.2.2.2.2.2.2.1 v.2.2.2.2.2.2.2.1 v.2.2.2.2.2.2.2.2 m_seenAs m_seenAt m_plan) := by
    intro hb
    refine ⟨_, _, (by unfold fX9_order; rcases hb with hb | hb; rw [if_pos hb]; by_cases q : x1 < (-3 : Int32); rw [if_pos q]; rw [if_neg q, if_neg hb.2]), (by unfold fX10_order fX10_in; rcases hb with hb | hb; rw [if_pos hb, Option.bind_some, if_pos rfl]; by_cases q : x1 < (-3 : Int32); rw [if_pos q, Option.bind_some, if_pos rfl]; rw [if_neg q, if_pos hb.1, Option.bind_some, if_pos rfl]), rfl, ?_⟩
    exact ⟨c, m, hc, hm, hT, hcity, hmcity, hmarch, hnow, hh, hi0, hi1, hs, hp, htr, ho⟩
  by_cases q1 : x1 < (-3 : Int32)
  · exact bad (Or.inl q1)
  by_cases q2 : (5 : Int32) < x1
  · refine bad (Or.inr ⟨q2, fun z => ?_⟩)
    rw [Int32.lt_iff_toInt_lt] at q2 z
    have e5 : (5 : Int32).toInt = 5 := by decide
    have e6 : (6 : Int32).toInt = 6 := by decide
    omega
  have q6 : x1 < (6 : Int32) := by
    rw [Int32.lt_iff_toInt_lt] at q2 ⊢
    have e5 : (5 : Int32).toInt = 5 := by decide
    have e6 : (6 : Int32).toInt = 6 := by decide
    omega
  obtain ⟨x11, x12, x13, x14, x15, x16, x17, x18, x19, x20, x21, yd, yf, yh, ylw, yw, ye, yhp, yle, ymo, yhi, ybest, ylong, e1, e2⟩ := lookOut_ok (N := N) hN hc hcity hm hmarch c_row_size c_row_homes c_row_told c_row_leading c_row_ended c_row_march_at c_row_march_hour c_row_march_fines c_row_march_led c_row_march_taken c_row_march_shut _ _ _ _ _ _ _ _ _ _ _ _ _ _ ho
  obtain ⟨ho', val', tr', rw', wh', th', be', f1, f2⟩ := findOrder_ok (N := N) hN hc hmcity hm hnow m_rowLong m_homes m_bestValue m_tried m_row m_who m_then m_best
  obtain ⟨v, hv⟩ := best_some c m
  obtain ⟨d, f, h, s⟩ := v
  have e2' := e2
  obtain ⟨-, e3, -, -⟩ := e2
  rw [hv] at e3 f2
  obtain ⟨a1, a2, a3, a4, a5, a6, a7⟩ := e3
  have a1 : yd = nI (1 - d) := a1
  have a2 : yf = nI f := a2
  have a3 : yh = nI h := a3
  have a4 : d ≤ 1 := a4
  have a5 : f ≤ 6 := a5
  have a6 : h ≤ 270 := a6
  obtain ⟨b1, -, -, -, b5⟩ := f2
  have b1 : val' = nI (wgt d f h) := b1
  have hw : wgt d f h < 2 ^ 31 := by unfold wgt; omega
  have r1 : val' - val' / (10000 : Int32) * (10000 : Int32) = nI h := by
    rw [b1, show (10000 : Int32) = nI 10000 from rfl, pk_rem hw (by omega) (by omega)]
    exact nI_cong (by unfold wgt; omega)
  have r2 : (val' - val' / (10000000 : Int32) * (10000000 : Int32)) / (10000 : Int32) = nI f := by
    rw [b1, show (10000000 : Int32) = nI 10000000 from rfl, pk_rem hw (by omega) (by omega), show (10000 : Int32) = nI 10000 from rfl, pk_div (by omega) (by omega) (by omega)]
    exact nI_cong (by unfold wgt; omega)
  have e1 := e1
  by_cases qn : x1 < 0
  · rcases x_neg3 qn q1 with rfl | rfl | rfl
    · refine ⟨_, _, (by unfold fX9_order; rw [if_neg q1, if_pos q6, e1, Option.bind_some, if_pos rfl]), (by unfold fX10_order fX10_in; rw [if_neg q1, if_neg q2, Option.bind_some, if_neg (by decide), f1, Option.bind_some, if_pos rfl]), a3.trans r1.symm, ?_⟩
      exact ⟨c, m, hc, hm, hT, hcity, hmcity, hmarch, hnow, hh, hi0, hi1, hs, hp, htr, Or.inr ⟨rfl, e2'⟩⟩
    · refine ⟨_, _, (by unfold fX9_order; rw [if_neg q1, if_pos q6, e1, Option.bind_some, if_neg (by decide), if_pos rfl]), (by unfold fX10_order fX10_in; rw [if_neg q1, if_neg q2, Option.bind_some, if_neg (by decide), f1, Option.bind_some, if_neg (by decide), if_pos rfl]), a2.trans r2.symm, ?_⟩
      exact ⟨c, m, hc, hm, hT, hcity, hmcity, hmarch, hnow, hh, hi0, hi1, hs, hp, htr, Or.inr ⟨rfl, e2'⟩⟩
    · by_cases qd : d = 0
      · refine ⟨_, _, (by unfold fX9_order; rw [if_neg q1, if_pos q6, e1, Option.bind_some, if_neg (by decide), if_neg (by decide), if_pos rfl]), (by unfold fX10_order fX10_in; rw [if_neg q1, if_neg q2, Option.bind_some, if_neg (by decide), f1, Option.bind_some, if_neg (by decide), if_neg (by decide), if_pos rfl, if_neg (by show ¬ (10000000 : Int32) ≤ val'; rw [b1, show (10000000 : Int32) = nI 10000000 from rfl]; exact dj (by unfold wgt; omega) (by omega))]), a1.trans (by rw [qd]), ?_⟩
        exact ⟨c, m, hc, hm, hT, hcity, hmcity, hmarch, hnow, hh, hi0, hi1, hs, hp, htr, Or.inr ⟨rfl, e2'⟩⟩
      · refine ⟨_, _, (by unfold fX9_order; rw [if_neg q1, if_pos q6, e1, Option.bind_some, if_neg (by decide), if_neg (by decide), if_pos rfl]), (by unfold fX10_order fX10_in; rw [if_neg q1, if_neg q2, Option.bind_some, if_neg (by decide), f1, Option.bind_some, if_neg (by decide), if_neg (by decide), if_pos rfl, if_pos (by show (10000000 : Int32) ≤ val'; rw [b1, show (10000000 : Int32) = nI 10000000 from rfl]; exact nI_le (by unfold wgt; omega) hw)]), a1.trans (by rw [show d = 1 by omega]), ?_⟩
        exact ⟨c, m, hc, hm, hT, hcity, hmcity, hmarch, hnow, hh, hi0, hi1, hs, hp, htr, Or.inr ⟨rfl, e2'⟩⟩
  · obtain ⟨j, hj, rfl⟩ := nI_of qn
    have n3 : ¬ nI j = (-3 : Int32) := nI_neg hj _ (by decide)
    have n2 : ¬ nI j = (-2 : Int32) := nI_neg hj _ (by decide)
    have n1 : ¬ nI j = (-1 : Int32) := nI_neg hj _ (by decide)
    have hn6 := (nn_ok hc hm).1
    have hj6 : j < 6 := (nI_ltI hj (by omega)).mp q6
    by_cases qj : nn c m ≤ j
    · refine ⟨_, _, (by unfold fX9_order; rw [if_neg q1, if_pos q6, e1, Option.bind_some, if_neg n3, if_neg n2, if_neg n1, if_pos (nI_le qj hj)]), (by unfold fX10_order fX10_in; rw [if_neg q1, if_neg q2, Option.bind_some, if_neg (by decide), f1, Option.bind_some, if_neg n3, if_neg n2, if_neg n1, if_pos (nI_le qj hj)]), rfl, ?_⟩
      exact ⟨c, m, hc, hm, hT, hcity, hmcity, hmarch, hnow, hh, hi0, hi1, hs, hp, htr, Or.inr ⟨rfl, e2'⟩⟩
    · refine ⟨_, _, (by unfold fX9_order; rw [if_neg q1, if_pos q6, e1, Option.bind_some, if_neg n3, if_neg n2, if_neg n1, if_neg (nI_ge (by omega) (by omega)), gi_ok hj6 (by omega)]), (by unfold fX10_order fX10_in; rw [if_neg q1, if_neg q2, Option.bind_some, if_neg (by decide), f1, Option.bind_some, if_neg n3, if_neg n2, if_neg n1, if_neg (nI_ge (by omega) (by omega)), gi_ok hj6 (by omega)]), ?_, ?_⟩
      · show ybest (nI j).toNatClampNeg = be' (nI j).toNatClampNeg
        rw [cl hj, a7 j (by omega), b5 j (by omega)]
      · exact ⟨c, m, hc, hm, hT, hcity, hmcity, hmarch, hnow, hh, hi0, hi1, hs, hp, htr, Or.inr ⟨rfl, e2'⟩⟩
