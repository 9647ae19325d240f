/-! odds, in the model -/
section OM
variable {N n x : Nat} {c : MC} {m : MM} {p : Nat → Nat} {x2 : Int32} {co st le en ti ho fe far now plan : Nat → Int32}
theorem minner {g W : Nat} {K58 : (Nat → Int32) → Int32 → Int32 → Int32 → Int32 → Option (Int32 × (Nat → Int32))} {pm x4 x5 : Int32} {tried : Nat → Int32} (hg : g ≤ 6) (hW : W < 2 ^ 31) (hx : x ≤ 10) : ∀ (j i fu : Nat), i + j = g → j < fu → ∃ fu', fX10_odds_b72 N pm co st en ti ho fe far now plan (nI x) x2 K58 fu tried (nI g) x4 x5 (nI W) (nI (prS x (10 - x) W i)) (nI i) = fX10_odds_b72 N pm co st en ti ho fe far now plan (nI x) x2 K58 (fu' + 1) tried (nI g) x4 x5 (nI W) (nI (prS x (10 - x) W g)) (nI g) := by
  intro j
  induction j with
  | zero =>
    intro i fu h1 h2
    obtain ⟨fu, rfl⟩ : ∃ j, fu = j + 1 := ⟨fu - 1, by omega⟩
    have e : i = g := by omega
    subst e
    exact ⟨fu, rfl⟩
  | succ j ih =>
    intro i fu h1 h2
    obtain ⟨fu, rfl⟩ : ∃ j, fu = j + 1 := ⟨fu - 1, by omega⟩
    obtain ⟨fu', e⟩ := ih (i + 1) fu (by omega) (by omega)
    refine ⟨fu', ?_⟩
    rw [← e, fX10_odds_b72, if_neg (dj (by omega) (by omega))]
    unfold fX10_odds_b99
    rw [show (10 : Int32) = nI 10 from rfl, pk_sub hx, pk_mul, pk_mul, nI_1]
    rw [show prS x (10 - x) W (i + 1) = prS x (10 - x) W i * (if W.testBit i = true then x else 10 - x) from rfl]
    by_cases q : W.testBit i = true
    · rw [if_pos ((bit1 hW (by omega)).mpr q), if_pos q]
    · rw [if_neg (fun z => q ((bit1 hW (by omega)).mp z)), if_neg q]
theorem modds_loop (hN : 1000 ≤ N) (hn : n ≤ 6) (hc : wfC c) (hcc : MCity c co st le en ti ho fe far) (hm : wfM c m) (hmm : MMarch m now) (hp : ∀ i, i < n → p i < mcL c) (hpl : holds n p plan) (hx : x ≤ 10) : ∀ (j k fu : Nat) (tried : Nat → Int32), k + j = 2 ^ (chS p (mmL m) n).1 → j < fu →
    ∃ tr', fX10_odds_b58 N (nI n) co st en ti ho fe far now plan (nI x) x2 fu tried (nI (chS p (mmL m) n).1) (nI (suS (oddM c m (chS p (mmL m) n).2.1 (chS p (mmL m) n).1 x) k)) (nI (oT m p n)) (nI k) = some (oR c m p n x x2, tr') := by
  have hg := ch_le p (mmL m) n
  have hw2 := pw_lt (show (chS p (mmL m) n).1 ≤ 6 by omega)
  have hw1 : 1 ≤ 2 ^ (chS p (mmL m) n).1 := Nat.one_le_two_pow
  have hT : oT m p n ≤ 1000000 := ten_le (show (chS p (mmL m) n).1 ≤ 6 by omega)
  have hT0 : 0 < oT m p n := Nat.pow_pos (by omega)
  intro j
  induction j with
  | zero =>
    intro k fu tried h1 h2
    obtain ⟨fu, rfl⟩ : ∃ j, fu = j + 1 := ⟨fu - 1, by omega⟩
    have e : k = 2 ^ (chS p (mmL m) n).1 := by omega
    subst e
    have hs := (odd_sum (c := c) (m := m) (a := (chS p (mmL m) n).2.1) (g := (chS p (mmL m) n).1) (x := x) (by omega) hx hw2).1
    have hG : 0 < Nat.gcd (oS c m p n x) (oT m p n) := Nat.gcd_pos_of_pos_right _ hT0
    have hs : oS c m p n x ≤ 64000000 := hs
    rw [fX10_odds_b58, one_shl (by omega), if_pos (nI_le (Nat.le_refl _) (by omega)), odd_same]
    rw [show suS (oddC c m (chS p (mmL m) n).2.1 (chS p (mmL m) n).1 x) (2 ^ (chS p (mmL m) n).1) = oS c m p n x from rfl]
    exact ⟨tried, mdiv_loop (by omega) (by omega) hG 20 (oS c m p n x) (oT m p n) N tried (Nat.lt_of_le_of_lt hT (by decide)) (by omega) (by omega) (by omega) rfl⟩
  | succ j ih =>
    intro k fu tried h1 h2
    obtain ⟨fu, rfl⟩ : ∃ j, fu = j + 1 := ⟨fu - 1, by omega⟩
    obtain ⟨tr, g1, g2⟩ := goPlan_ok (N := N) (W := k) (tried := tried) (by omega) hn hc hcc hm hmm hp hpl (by omega)
    have hwf := (pl_ok (b := fun i => !k.testBit i) hc hm hp n (Nat.le_refl _)).1
    have ha8 : mmA (plS c (chS p (mmL m) n).2.1 (fun i => !k.testBit i) m (chS p (mmL m) n).1) < 8 := by
      have := hwf.1
      have := hc.1
      omega
    have ih2 := fun tried => ih (k + 1) fu tried (by omega) (by omega)
    unfold suS at ih2
    unfold oddM at ih2
    rw [fX10_odds_b58, one_shl (by omega), if_neg (dj (by omega) (by omega))]
    obtain ⟨fu', e0⟩ := minner (N := N) (x := x) (x2 := x2) (co := co) (st := st) (en := en) (ti := ti) (ho := ho) (fe := fe) (far := far) (now := now) (plan := plan) (g := (chS p (mmL m) n).1) (W := k) (K58 := fun t_tried x3 x4 x5 x6 => fX10_odds_b58 N (nI n) co st en ti ho fe far now plan (nI x) x2 fu t_tried x3 x4 x5 x6) (pm := nI n) (x4 := nI (suS (oddM c m (chS p (mmL m) n).2.1 (chS p (mmL m) n).1 x) k)) (x5 := nI (oT m p n)) (tried := tried) (by omega) (by omega) hx (chS p (mmL m) n).1 0 N (by omega) (by omega)
    have e0 : fX10_odds_b72 N (nI n) co st en ti ho fe far now plan (nI x) x2 (fun t_tried x3 x4 x5 x6 => fX10_odds_b58 N (nI n) co st en ti ho fe far now plan (nI x) x2 fu t_tried x3 x4 x5 x6) N tried (nI (chS p (mmL m) n).1) (nI (suS (oddM c m (chS p (mmL m) n).2.1 (chS p (mmL m) n).1 x) k)) (nI (oT m p n)) (nI k) (1 : Int32) (0 : Int32) = _ := e0
    rw [e0, fX10_odds_b72, if_pos (nI_le (Nat.le_refl _) (by omega)), g1, Option.bind_some]
    dsimp only
    rw [mdoor_ok hc hcc.1 g2 ha8, Option.bind_some]
    unfold fX10_odds_b130
    cases e : atDoor c (plS c (chS p (mmL m) n).2.1 (fun i => !k.testBit i) m (chS p (mmL m) n).1) with
    | false =>
      rw [if_pos (show bI false = 0 from rfl), nI_1, show (0 : Int32) = nI 0 from rfl, nI_add]
      simp only [e] at ih2
      exact ih2 tr
    | true =>
      rw [if_neg (show ¬ bI true = 0 by decide), nI_add, nI_1]
      simp only [e] at ih2
      exact ih2 tr
theorem modds_ok {pm : Int32} {tried : Nat → Int32} (hN : 1000 ≤ N) (hn : n ≤ 6) (hc : wfC c) (hcc : MCity c co st le en ti ho fe far) (hm : wfM c m) (hmm : MMarch m now) (hp : ∀ i, i < n → p i < mcL c) (hpl : holds n p plan) (hx : x ≤ 10) : ∀ (j k fu : Nat), k + j = (chS p (mmL m) n).1 → j < fu → ∃ tr', fX10_odds_b36 N (nI n) co st en ti ho fe far now plan (nI x) x2 fu tried (nI (chS p (mmL m) n).1) (0 : Int32) (nI (10 ^ k)) (nI k) = some (oR c m p n x x2, tr') := by
  have hg := ch_le p (mmL m) n
  have hw2 := pw_lt (show (chS p (mmL m) n).1 ≤ 6 by omega)
  intro j
  induction j with
  | zero =>
    intro k fu h1 h2
    obtain ⟨fu, rfl⟩ : ∃ j, fu = j + 1 := ⟨fu - 1, by omega⟩
    have e : k = (chS p (mmL m) n).1 := by omega
    subst e
    rw [fX10_odds_b36, if_pos (nI_le (Nat.le_refl _) (by omega))]
    exact modds_loop hN hn hc hcc hm hmm hp hpl hx (2 ^ (chS p (mmL m) n).1) 0 N tried (by omega) (by omega)
  | succ j ih =>
    intro k fu h1 h2
    obtain ⟨fu, rfl⟩ : ∃ j, fu = j + 1 := ⟨fu - 1, by omega⟩
    rw [fX10_odds_b36, if_neg (dj (by omega) (by omega)), show (10 : Int32) = nI 10 from rfl, pk_mul, ← Nat.pow_succ, nI_1]
    exact ih (k + 1) fu (by omega) (by omega)
end OM
set_option maxHeartbeats 4000000 in
theorem sim_odds (N : Nat) (hN : 1000 ≤ N) (c_traced : Int64) (c_text_length c_text_place c_text_start c_text_token c_text_value : Int32) (c_text_bytes : Nat → Int32) (c_map_corners c_map_streets c_map_leaders : Int32) (c_map_first c_map_second c_map_hours c_map_home c_map_feet : Nat → Int32) (c_map_far : Nat → Nat → Int32) (c_draft_corners c_draft_streets c_draft_leaders : Int32) (c_draft_first c_draft_second c_draft_hours c_draft_home c_draft_feet : Nat → Int32) (c_draft_far : Nat → Nat → Int32) (c_march_at c_march_hour c_march_fines c_march_led c_march_taken c_march_shut c_history_size : Int32) (c_history_past : Nat → Nat → Int32) (c_images0_kept c_images0_march_at c_images0_march_hour c_images0_march_fines c_images0_march_led c_images0_march_taken c_images0_march_shut c_images0_history_size : Int32) (c_images0_history_past : Nat → Nat → Int32) (c_images1_kept c_images1_march_at c_images1_march_hour c_images1_march_fines c_images1_march_led c_images1_march_taken c_images1_march_shut c_images1_history_size : Int32) (c_images1_history_past : Nat → Nat → Int32) (c_row_size c_row_homes : Int32) (c_row_told c_row_leading c_row_ended : Nat → Int32) (c_row_march_at c_row_march_hour c_row_march_fines c_row_march_led c_row_march_taken c_row_march_shut c_outlook_fresh c_outlook_size c_outlook_door c_outlook_fines c_outlook_hours c_outlook_longestWalked c_outlook_walked c_outlook_ends c_outlook_happy c_outlook_leastBread c_outlook_mostBread c_outlook_hides : Int32) (c_outlook_best c_outlook_longest : Nat → Int32) (c_sights_size : Int32) (c_sights_as c_sights_corner : Nat → Int32) (c_plan_size c_plan_going : Int32) (c_plan_told c_plan_able : Nat → Int32) (c_plan_march_at c_plan_march_hour c_plan_march_fines c_plan_march_led c_plan_march_taken c_plan_march_shut : Int32) (m_trace : Int64) (m_typed m_at m_start m_sort m_value m_fault m_rowLong m_homes m_bestValue m_seen m_planMany : Int32) (m_text m_corners m_streets m_ends m_time m_leaders m_home m_feet m_far m_now m_isKept m_tried m_row m_who m_then m_best m_seenAs m_seenAt m_plan : Nat → Int32) (x1 : Int32) (x2 : Int32) (h : (RR c_traced c_text_length c_text_place c_text_start c_text_token c_text_value c_text_bytes c_map_corners c_map_streets c_map_leaders c_map_first c_map_second c_map_hours c_map_home c_map_feet c_map_far c_draft_corners c_draft_streets c_draft_leaders c_draft_first c_draft_second c_draft_hours c_draft_home c_draft_feet c_draft_far c_march_at c_march_hour c_march_fines c_march_led c_march_taken c_march_shut c_history_size c_history_past c_images0_kept c_images0_march_at c_images0_march_hour c_images0_march_fines c_images0_march_led c_images0_march_taken c_images0_march_shut c_images0_history_size c_images0_history_past c_images1_kept c_images1_march_at c_images1_march_hour c_images1_march_fines c_images1_march_led c_images1_march_taken c_images1_march_shut c_images1_history_size c_images1_history_past c_row_size c_row_homes c_row_told c_row_leading c_row_ended c_row_march_at c_row_march_hour c_row_march_fines c_row_march_led c_row_march_taken c_row_march_shut c_outlook_fresh c_outlook_size c_outlook_door c_outlook_fines c_outlook_hours c_outlook_longestWalked c_outlook_walked c_outlook_ends c_outlook_happy c_outlook_leastBread c_outlook_mostBread c_outlook_hides c_outlook_best c_outlook_longest c_sights_size c_sights_as c_sights_corner c_plan_size c_plan_going c_plan_told c_plan_able c_plan_march_at c_plan_march_hour c_plan_march_fines c_plan_march_led c_plan_march_taken c_plan_march_shut m_trace m_typed m_at m_start m_sort m_value m_fault m_rowLong m_homes m_bestValue m_seen m_planMany m_text m_corners m_streets m_ends m_time m_leaders m_home m_feet m_far m_now m_isKept m_tried m_row m_who m_then m_best m_seenAs m_seenAt m_plan)) : ∃ u v, (fX9_odds N c_map_corners c_map_streets c_map_leaders c_map_first c_map_second c_map_hours c_map_home c_map_feet c_map_far c_march_at c_march_hour c_march_fines c_march_led c_march_taken c_march_shut c_plan_size c_plan_going c_plan_told c_plan_able c_plan_march_at c_plan_march_hour c_plan_march_fines c_plan_march_led c_plan_march_taken c_plan_march_shut x1 x2) = some u ∧ (fX10_odds N m_planMany m_corners m_streets m_ends m_time m_home m_feet m_far m_now m_tried m_plan x1 x2) = some v ∧ u.1 = v.1 ∧ (RR c_traced c_text_length c_text_place c_text_start c_text_token c_text_value c_text_bytes c_map_corners c_map_streets c_map_leaders c_map_first c_map_second c_map_hours c_map_home c_map_feet c_map_far c_draft_corners c_draft_streets c_draft_leaders c_draft_first c_draft_second c_draft_hours c_draft_home c_draft_feet c_draft_far c_march_at c_march_hour c_march_fines c_march_led c_march_taken c_march_shut c_history_size c_history_past c_images0_kept c_images0_march_at c_images0_march_hour c_images0_march_fines c_images0_march_led c_images0_march_taken c_images0_march_shut c_images0_history_size c_images0_history_past c_images1_kept c_images1_march_at c_images1_march_hour c_images1_march_fines c_images1_march_led c_images1_march_taken c_images1_march_shut c_images1_history_size c_images1_history_past c_row_size c_row_homes c_row_told c_row_leading c_row_ended c_row_march_at c_row_march_hour c_row_march_fines c_row_march_led c_row_march_taken c_row_march_shut c_outlook_fresh c_outlook_size c_outlook_door c_outlook_fines c_outlook_hours c_outlook_longestWalked c_outlook_walked c_outlook_ends c_outlook_happy c_outlook_leastBread c_outlook_mostBread c_outlook_hides c_outlook_best c_outlook_longest c_sights_size c_sights_as c_sights_corner c_plan_size u.2.1 c_plan_told u.2.2.1 u.2.2.2.1 u.2.2.2.2.1 u.2.2.2.2.2.1 u.2.2.2.2.2.2.1 u.2.2.2.2.2.2.2.1 u.2.2.2.2.2.2.2.2 m_trace m_typed m_at m_start m_sort m_value m_fault m_rowLong m_homes m_bestValue m_seen m_planMany m_text m_corners m_streets m_ends m_time m_leaders m_home m_feet m_far m_now m_isKept v.2 m_row m_who m_then m_best m_seenAs m_seenAt m_plan) := by
  obtain ⟨c, m, hc, hm, hT, hcity, hmcity, hmarch, hnow, hh, hi0, hi1, hs, hp, htr, ho⟩ := h
  obtain ⟨n, p, n1, rfl, rfl, n4, n5, n6⟩ := plan_of hp hc.2.2.1
  have hg := ch_le p (mmL m) n
  have hw2 := pw_lt (show (chS p (mmL m) n).1 ≤ 6 by omega)
  have hw1 : 1 ≤ 2 ^ (chS p (mmL m) n).1 := Nat.one_le_two_pow
  obtain ⟨b, f1, f2⟩ := choose_ok (N := N) (z := c_plan_going) (able := c_plan_able) (by omega) n1 hc hm n4 n5
  rw [← hmarch.2.2.2.1] at f1
  by_cases qn : x1 < 0
  · refine ⟨_, _, (by unfold fX9_odds; rw [if_pos qn]), (by unfold fX10_odds; rw [show fX10_in N x1 (0 : Int32) (10 : Int32) = some 0 from by unfold fX10_in; rw [if_pos qn], Option.bind_some, if_pos rfl]), ?_, ?_⟩
    · rfl
    exact ⟨c, m, hc, hm, hT, hcity, hmcity, hmarch, hnow, hh, hi0, hi1, hs, hp, htr, ho⟩
  by_cases q10 : (10 : Int32) < x1
  · refine ⟨_, _, (by unfold fX9_odds; rw [if_neg qn, if_pos q10]), (by unfold fX10_odds; rw [show fX10_in N x1 (0 : Int32) (10 : Int32) = some 0 from by unfold fX10_in; rw [if_neg qn, if_pos q10], Option.bind_some, if_pos rfl]), ?_, ?_⟩
    · rfl
    exact ⟨c, m, hc, hm, hT, hcity, hmcity, hmarch, hnow, hh, hi0, hi1, hs, hp, htr, ho⟩
  have i1 : fX10_in N x1 (0 : Int32) (10 : Int32) = some 1 := by unfold fX10_in; rw [if_neg qn, if_neg q10]
  by_cases rn : x2 < 0
  · refine ⟨_, _, (by unfold fX9_odds; rw [if_neg qn, if_neg q10, if_pos rn]), (by unfold fX10_odds; rw [i1, Option.bind_some, if_neg (show ¬ (1 : Int32) = 0 by decide), show fX10_in N x2 (0 : Int32) (1 : Int32) = some 0 from by unfold fX10_in; rw [if_pos rn], Option.bind_some, if_pos rfl]), ?_, ?_⟩
    · rfl
    exact ⟨c, m, hc, hm, hT, hcity, hmcity, hmarch, hnow, hh, hi0, hi1, hs, hp, htr, ho⟩
  by_cases r1 : x2 ≤ (1 : Int32)
  · have r2 : ¬ (1 : Int32) < x2 := fun z => Int32.not_lt.mpr r1 z
    obtain ⟨x, hx, rfl⟩ := nI_of qn
    have hx10 : x ≤ 10 := by
      refine Nat.not_lt.mp (fun z => q10 ?_)
      rw [show (10 : Int32) = nI 10 from rfl]
      exact nI_lt z hx
    obtain ⟨y1, y2, y3, y4, y5, y6, w1⟩ := codds_loop (N := N) (x2 := x2) (told := c_plan_told) (sz := nI n) hN n1 hc hcity hm hmarch n4 hx10 f2 (2 ^ (chS p (mmL m) n).1) 0 N c_plan_march_at c_plan_march_hour c_plan_march_fines c_plan_march_led c_plan_march_taken c_plan_march_shut (by omega) (by omega)
    have w1 : fX9_odds_b46 N c_map_corners c_map_streets c_map_leaders c_map_first c_map_second c_map_hours c_map_home c_map_feet c_map_far c_march_at c_march_hour c_march_fines c_march_led c_march_taken c_march_shut (nI n) c_plan_told (nI x) x2 N (nI (chS p (mmL m) n).1) b c_plan_march_at c_plan_march_hour c_plan_march_fines c_plan_march_led c_plan_march_taken c_plan_march_shut (nI (10 ^ (chS p (mmL m) n).1)) (0 : Int32) (0 : Int32) = _ := w1
    obtain ⟨tr0, g1, g2⟩ := goPlan_ok (N := N) (W := 0) (tried := m_tried) (by omega) n1 hc hmcity hm hnow n4 n6 (by omega)
    have g1 : fX10_goPlan N (nI n) m_streets m_ends m_time m_home m_feet m_far m_now m_tried m_plan (0 : Int32) = _ := g1
    obtain ⟨tr, w2⟩ := modds_ok (N := N) (x2 := x2) (pm := nI n) (tried := tr0) hN n1 hc hmcity hm hnow n4 n6 hx10 (chS p (mmL m) n).1 0 N (by omega) (by omega)
    have w2 : fX10_odds_b36 N (nI n) m_corners m_streets m_ends m_time m_home m_feet m_far m_now m_plan (nI x) x2 N tr0 (nI (chS p (mmL m) n).1) (0 : Int32) (1 : Int32) (0 : Int32) = _ := w2
    refine ⟨_, _, (by unfold fX9_odds; rw [if_neg qn, if_neg q10, if_neg rn, if_pos r1, f1, Option.bind_some]; dsimp only; rw [whole_ok (by omega) (by omega), Option.bind_some, w1]), (by unfold fX10_odds; rw [i1, Option.bind_some, if_neg (show ¬ (1 : Int32) = 0 by decide), show fX10_in N x2 (0 : Int32) (1 : Int32) = some 1 from by unfold fX10_in; rw [if_neg rn, if_neg r2], Option.bind_some, if_neg (show ¬ (1 : Int32) = 0 by decide), g1, Option.bind_some]; dsimp only; rw [w2]), ?_, ?_⟩
    · rfl
    exact ⟨c, m, hc, hm, hT, hcity, hmcity, hmarch, hnow, hh, hi0, hi1, hs, hp, htr, ho⟩
  · have r2 : (1 : Int32) < x2 := Int32.not_le.mp r1
    refine ⟨_, _, (by unfold fX9_odds; rw [if_neg qn, if_neg q10, if_neg rn, if_neg r1]), (by unfold fX10_odds; rw [i1, Option.bind_some, if_neg (show ¬ (1 : Int32) = 0 by decide), show fX10_in N x2 (0 : Int32) (1 : Int32) = some 0 from by unfold fX10_in; rw [if_neg rn, if_pos r2], Option.bind_some, if_pos rfl]), ?_, ?_⟩
    · rfl
    exact ⟨c, m, hc, hm, hT, hcity, hmcity, hmarch, hnow, hh, hi0, hi1, hs, hp, htr, ho⟩
