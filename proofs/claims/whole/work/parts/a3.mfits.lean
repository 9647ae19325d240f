/-! fits, in the model -/
section FM
variable {N n : Nat} {c : MC} {m : MM} {co st le en ti ho fe far now as at' : Nat → Int32} {x1 : Int32} {K : Nat} {p q : Nat → Nat} {y : Option Nat} {sn : Int32}
theorem first_bit {U : Nat} {r hs : Int32} {tried row who then' : Nat → Int32} (hU : U < 64) (h0 : U ≠ 0) : ∀ (d j fu : Nat), j + d = 6 → d < fu → (∀ i, i < j → U.testBit i = false) → ∃ z, fX10_fits_b102 N sn st en ti le ho fe far now as at' x1 fu r hs tried row who then' (nI U) (nI j) = some (z, r, hs, tried, row, who, then') ∧ srep U z := by
  intro d
  induction d with
  | zero =>
    intro j fu h1 h2 h3
    refine absurd (Nat.eq_of_testBit_eq (fun i => ?_)) h0
    rw [Nat.zero_testBit]
    by_cases q : i < 6
    · exact h3 i (by omega)
    · exact tb_lt (k := 6) hU (by omega)
  | succ d ih =>
    intro j fu h1 h2 h3
    obtain ⟨fu, rfl⟩ : ∃ j, fu = j + 1 := ⟨fu - 1, by omega⟩
    rw [fX10_fits_b102]
    by_cases q : U.testBit j = true
    · rw [if_neg (fun z => by rw [(bit0 (by omega) (by omega)).mp z] at q; cases q), one_shl (by omega)]
      by_cases q2 : U = 2 ^ j
      · rw [if_pos (congrArg nI q2)]
        exact ⟨_, rfl, Or.inr (Or.inl ⟨j, by omega, q2, rfl⟩)⟩
      · have h64 : 2 ^ j ≤ 2 ^ 6 := Nat.pow_le_pow_right (by omega) (by omega)
        rw [if_neg (fun z => q2 ((nI_eq (by omega) (by omega)).mp z))]
        refine ⟨_, rfl, Or.inr (Or.inr ⟨h0, fun l hl e => ?_, rfl⟩)⟩
        rw [e, tb_pow] at q
        have e2 : l = j := by simpa using q
        exact q2 (by rw [e, e2])
    · rw [if_pos ((bit0 (by omega) (by omega)).mpr (by simpa using q)), nI_1]
      refine ih (j + 1) fu (by omega) (by omega) (fun i hi => ?_)
      by_cases e : i = j
      · subst e
        simpa using q
      · exact h3 i (by omega)
theorem mfits_loop (hN : 1000 ≤ N) (hn : n ≤ 6) (hc : wfC c) (hcc : MCity c co st le en ti ho fe far) (hm : wfM c m) (hmm : MMarch m now) (hK : K ≤ 6) (hp : ∀ i, i < K → p i < 6 ∧ q i < 2 ^ 31) (ha : holds K p as) (hb : holds K q at') (hy : asked n x1 y) (hx16 : y = none ∨ x1 < (6 : Int32)) : ∀ (k fu : Nat) (t : Nat → Nat) (a : Nat × Nat) (homes : Int32) (tried row who then' : Nat → Int32), k + 1 < fu → ends n k t = true → (∀ x, t x < 2 ^ 31) → good c n 0 t m → holds n t row → a.2 < 64 →
    ∃ (w1 : Int32) (w2 w3 w4 w5 : Nat → Int32) (r3 : Int32), fX10_fits_b22 N (nI K) st en ti le ho fe far now as at' x1 fu (nI n) homes tried row who then' (1 : Int32) (nI a.1) (nI a.2) = some ((if x1 = (-1 : Int32) then nI ((rowsL n k t).foldl (f1 c n m p q K y) a).1 else r3), nI n, w1, w2, w3, w4, w5) ∧ srep ((rowsL n k t).foldl (f1 c n m p q K y) a).2 r3 := by
  intro k
  induction k with
  | zero => intro fu t a homes tried row who then' h1 h3; simp [ends] at h3
  | succ k ih =>
    intro fu t a homes tried row who then' h1 h3 ht31 hg hto h64
    obtain ⟨fu, rfl⟩ : ∃ j, fu = j + 1 := ⟨fu - 1, by omega⟩
    obtain ⟨r1, r2, r3, r4, r5, r6, r7, r8, r9⟩ := rr_ok hn hc hm hg
    obtain ⟨tr', wh', th', w1, w2, w3, w4⟩ := run_ok (N := N) (x := homes) (tried := tried) (who := who) (then' := then') (by omega) hn hc hcc hm hg hmm hto
    have w3 : holds n (rr c n m t).1 wh' := w3
    have w4 : holds n (rr c n m t).2.2.1 th' := w4
    obtain ⟨rn, bn, n1, n2⟩ := next_m (N := N) (by omega) hn ht31 hto
    have hag : fX10_isSo N (nI n) (nI K) th' as at' = some (bI (agS n p q (rr c n m t).2.2.1 K)) := agree_m (N := N) hK hn hp ha hb (rr_th hc hm hg) w4 K 0 N (by omega) (by omega)
    rw [fX10_fits_b22, if_neg (by decide), w1, Option.bind_some]
    dsimp only
    rw [hag, Option.bind_some]
    have go : ∀ (a' : Nat × Nat), f1 c n m p q K y a t = a' → a'.2 < 64 → ∀ (o1 : Int32), ∃ (w1 : Int32) (w2 w3 w4 w5 : Nat → Int32) (r3 : Int32), fX10_fits_b69 N (nI K) st en ti le ho fe far now as at' x1 (fun t_rowLong t_homes t_tried t_row t_who t_then x2 x3 x4 => fX10_fits_b22 N (nI K) st en ti le ho fe far now as at' x1 fu t_rowLong t_homes t_tried t_row t_who t_then x2 x3 x4) (nI n) o1 tr' row wh' th' (nI a'.1) (nI a'.2) = some ((if x1 = (-1 : Int32) then nI ((rowsL n (k + 1) t).foldl (f1 c n m p q K y) a).1 else r3), nI n, w1, w2, w3, w4, w5) ∧ srep ((rowsL n (k + 1) t).foldl (f1 c n m p q K y) a).2 r3 := by
      intro a' ea h64' o1
      unfold fX10_fits_b69
      rw [n1, Option.bind_some]
      unfold ends at h3
      rcases n2 with ⟨e1, rfl, -⟩ | ⟨t', e1, rfl, hto'⟩
      · have er : rowsL n (k + 1) t = [t] := by unfold rowsL; rw [e1]
        rw [er]
        obtain ⟨fu, rfl⟩ : ∃ j, fu = j + 1 := ⟨fu - 1, by omega⟩
        dsimp only
        rw [fX10_fits_b22, if_pos rfl]
        show ∃ (w1 : Int32) (w2 w3 w4 w5 : Nat → Int32) (r3 : Int32), _ = some ((if x1 = (-1 : Int32) then nI (f1 c n m p q K y a t).1 else r3), _) ∧ srep (f1 c n m p q K y a t).2 r3
        rw [ea]
        by_cases z : x1 = (-1 : Int32)
        · rw [if_pos z]
          unfold fX10_fits_b87
          rw [if_pos z]
          by_cases z0 : a'.2 = 0
          · exact ⟨o1, tr', bn, wh', th', (-9 : Int32), by rw [if_pos z], Or.inl ⟨z0, rfl⟩⟩
          · obtain ⟨r, -, hr⟩ := first_bit (N := N) (st := st) (en := en) (ti := ti) (le := le) (ho := ho) (fe := fe) (far := far) (now := now) (as := as) (at' := at') (x1 := x1) (sn := nI K) (r := nI n) (hs := o1) (tried := tr') (row := bn) (who := wh') (then' := th') h64' z0 6 0 N (by omega) (by omega) (fun i hi => absurd hi (by omega))
            exact ⟨o1, tr', bn, wh', th', r, by rw [if_pos z], hr⟩
        · rw [if_neg z]
          by_cases z0 : a'.2 = 0
          · rw [if_pos (by rw [z0]; rfl)]
            unfold fX10_fits_b87
            rw [if_neg z]
            exact ⟨o1, tr', bn, wh', th', (-9 : Int32), by rw [if_neg z], Or.inl ⟨z0, rfl⟩⟩
          · rw [if_neg (nI_ne0 (by omega) (by omega))]
            obtain ⟨r, hr1, hr⟩ := first_bit (N := N) (st := st) (en := en) (ti := ti) (le := le) (ho := ho) (fe := fe) (far := far) (now := now) (as := as) (at' := at') (x1 := x1) (sn := nI K) (r := nI n) (hs := o1) (tried := tr') (row := bn) (who := wh') (then' := th') h64' z0 6 0 N (by omega) (by omega) (fun i hi => absurd hi (by omega))
            exact ⟨o1, tr', bn, wh', th', r, by rw [if_neg z]; exact hr1, hr⟩
      · dsimp only
        rw [e1] at h3
        have er : rowsL n (k + 1) t = t :: rowsL n k t' := by rw [rowsL, e1]
        rw [er]
        obtain ⟨v1, v2, v3, v4, v5, v6, b1, b2⟩ := ih fu t' a' o1 tr' bn wh' th' (by omega) h3 (nx_lt e1 ht31) (nx_good e1 hg) hto' h64'
        refine ⟨v1, v2, v3, v4, v5, v6, ?_, ?_⟩
        · show _ = some ((if x1 = (-1 : Int32) then nI ((rowsL n k t').foldl (f1 c n m p q K y) (f1 c n m p q K y a t)).1 else v6), _)
          rw [ea]
          exact b1
        · show srep ((rowsL n k t').foldl (f1 c n m p q K y) (f1 c n m p q K y a t)).2 v6
          rw [ea]
          exact b2
    cases e : agS n p q (rr c n m t).2.2.1 K with
    | false =>
      rw [if_pos (show bI false = 0 from rfl)]
      exact go a (by unfold f1; rw [e]; rfl) h64 _
    | true =>
      rw [if_neg (show ¬ bI true = 0 by decide), nI_1]
      unfold fX10_fits_b65 fX10_fits_b66
      have o0 : nI a.2 ||| (0 : Int32) = nI a.2 := by rw [show (0 : Int32) = nI 0 from rfl, fa_or, Nat.or_zero]
      rw [o0]
      rcases hy with ⟨rfl, hx⟩ | ⟨j, rfl, hj, rfl⟩
      · have g := go (a.1 + 1, a.2) (by unfold f1; rw [e]; rfl) h64 (nI (rr c n m t).2.2.2)
        rcases hx with hx | ⟨hx, hx2⟩
        · rw [if_pos hx]
          exact g
        · rw [if_neg hx, if_pos hx2]
          exact g
      · have hw := r8 j hj
        rw [if_neg (nI_pos (by omega)), if_neg (dj hj (by omega)), gi_ok (by omega) (by omega), cl (show j < 2 ^ 31 by omega), w3 j hj, one_shl (by omega), fa_or]
        exact go (a.1 + 1, a.2 ||| 2 ^ ((rr c n m t).1 j)) (by unfold f1; rw [e]; rfl) (or_lt (k := 6) h64 (Nat.pow_lt_pow_right (by omega) hw)) _
end FM
set_option maxHeartbeats 4000000 in
theorem sim_fits (N : Nat) (hN : 1000 ≤ N) (c_traced : Int64) (c_text_length c_text_place c_text_start c_text_token c_text_value : Int32) (c_text_bytes : Nat → Int32) (c_map_corners c_map_streets c_map_leaders : Int32) (c_map_first c_map_second c_map_hours c_map_home c_map_feet : Nat → Int32) (c_map_far : Nat → Nat → Int32) (c_draft_corners c_draft_streets c_draft_leaders : Int32) (c_draft_first c_draft_second c_draft_hours c_draft_home c_draft_feet : Nat → Int32) (c_draft_far : Nat → Nat → Int32) (c_march_at c_march_hour c_march_fines c_march_led c_march_taken c_march_shut c_history_size : Int32) (c_history_past : Nat → Nat → Int32) (c_images0_kept c_images0_march_at c_images0_march_hour c_images0_march_fines c_images0_march_led c_images0_march_taken c_images0_march_shut c_images0_history_size : Int32) (c_images0_history_past : Nat → Nat → Int32) (c_images1_kept c_images1_march_at c_images1_march_hour c_images1_march_fines c_images1_march_led c_images1_march_taken c_images1_march_shut c_images1_history_size : Int32) (c_images1_history_past : Nat → Nat → Int32) (c_row_size c_row_homes : Int32) (c_row_told c_row_leading c_row_ended : Nat → Int32) (c_row_march_at c_row_march_hour c_row_march_fines c_row_march_led c_row_march_taken c_row_march_shut c_outlook_fresh c_outlook_size c_outlook_door c_outlook_fines c_outlook_hours c_outlook_longestWalked c_outlook_walked c_outlook_ends c_outlook_happy c_outlook_leastBread c_outlook_mostBread c_outlook_hides : Int32) (c_outlook_best c_outlook_longest : Nat → Int32) (c_sights_size : Int32) (c_sights_as c_sights_corner : Nat → Int32) (c_plan_size c_plan_going : Int32) (c_plan_told c_plan_able : Nat → Int32) (c_plan_march_at c_plan_march_hour c_plan_march_fines c_plan_march_led c_plan_march_taken c_plan_march_shut : Int32) (m_trace : Int64) (m_typed m_at m_start m_sort m_value m_fault m_rowLong m_homes m_bestValue m_seen m_planMany : Int32) (m_text m_corners m_streets m_ends m_time m_leaders m_home m_feet m_far m_now m_isKept m_tried m_row m_who m_then m_best m_seenAs m_seenAt m_plan : Nat → Int32) (x1 : Int32) (h : (RR c_traced c_text_length c_text_place c_text_start c_text_token c_text_value c_text_bytes c_map_corners c_map_streets c_map_leaders c_map_first c_map_second c_map_hours c_map_home c_map_feet c_map_far c_draft_corners c_draft_streets c_draft_leaders c_draft_first c_draft_second c_draft_hours c_draft_home c_draft_feet c_draft_far c_march_at c_march_hour c_march_fines c_march_led c_march_taken c_march_shut c_history_size c_history_past c_images0_kept c_images0_march_at c_images0_march_hour c_images0_march_fines c_images0_march_led c_images0_march_taken c_images0_march_shut c_images0_history_size c_images0_history_past c_images1_kept c_images1_march_at c_images1_march_hour c_images1_march_fines c_images1_march_led c_images1_march_taken c_images1_march_shut c_images1_history_size c_images1_history_past c_row_size c_row_homes c_row_told c_row_leading c_row_ended c_row_march_at c_row_march_hour c_row_march_fines c_row_march_led c_row_march_taken c_row_march_shut c_outlook_fresh c_outlook_size c_outlook_door c_outlook_fines c_outlook_hours c_outlook_longestWalked c_outlook_walked c_outlook_ends c_outlook_happy c_outlook_leastBread c_outlook_mostBread c_outlook_hides c_outlook_best c_outlook_longest c_sights_size c_sights_as c_sights_corner c_plan_size c_plan_going c_plan_told c_plan_able c_plan_march_at c_plan_march_hour c_plan_march_fines c_plan_march_led c_plan_march_taken c_plan_march_shut m_trace m_typed m_at m_start m_sort m_value m_fault m_rowLong m_homes m_bestValue m_seen m_planMany m_text m_corners m_streets m_ends m_time m_leaders m_home m_feet m_far m_now m_isKept m_tried m_row m_who m_then m_best m_seenAs m_seenAt m_plan)) : ∃ u v, (fX9_fits N c_map_streets c_map_leaders c_map_first c_map_second c_map_hours c_map_home c_map_feet c_map_far c_march_at c_march_hour c_march_fines c_march_led c_march_taken c_march_shut c_row_size c_row_homes c_row_told c_row_leading c_row_ended c_row_march_at c_row_march_hour c_row_march_fines c_row_march_led c_row_march_taken c_row_march_shut c_sights_size c_sights_as c_sights_corner x1) = some u ∧ (fX10_fits N m_rowLong m_homes m_seen m_streets m_ends m_time m_leaders m_home m_feet m_far m_now m_tried m_row m_who m_then m_seenAs m_seenAt x1) = some v ∧ u.1 = v.1 ∧ (RR c_traced c_text_length c_text_place c_text_start c_text_token c_text_value c_text_bytes c_map_corners c_map_streets c_map_leaders c_map_first c_map_second c_map_hours c_map_home c_map_feet c_map_far c_draft_corners c_draft_streets c_draft_leaders c_draft_first c_draft_second c_draft_hours c_draft_home c_draft_feet c_draft_far c_march_at c_march_hour c_march_fines c_march_led c_march_taken c_march_shut c_history_size c_history_past c_images0_kept c_images0_march_at c_images0_march_hour c_images0_march_fines c_images0_march_led c_images0_march_taken c_images0_march_shut c_images0_history_size c_images0_history_past c_images1_kept c_images1_march_at c_images1_march_hour c_images1_march_fines c_images1_march_led c_images1_march_taken c_images1_march_shut c_images1_history_size c_images1_history_past u.2.1 u.2.2.1 u.2.2.2.1 u.2.2.2.2.1 u.2.2.2.2.2.1 u.2.2.2.2.2.2.1 u.2.2.2.2.2.2.2.1 u.2.2.2.2.2.2.2.2.1 u.2.2.2.2.2.2.2.2.2.1 u.2.2.2.2.2.2.2.2.2.2.1 u.2.2.2.2.2.2.2.2.2.2.2 c_outlook_fresh c_outlook_size c_outlook_door c_outlook_fines c_outlook_hours c_outlook_longestWalked c_outlook_walked c_outlook_ends c_outlook_happy c_outlook_leastBread c_outlook_mostBread c_outlook_hides c_outlook_best c_outlook_longest c_sights_size c_sights_as c_sights_corner c_plan_size c_plan_going c_plan_told c_plan_able c_plan_march_at c_plan_march_hour c_plan_march_fines c_plan_march_led c_plan_march_taken c_plan_march_shut m_trace m_typed m_at m_start m_sort m_value m_fault v.2.1 v.2.2.1 m_bestValue m_seen m_planMany m_text m_corners m_streets m_ends m_time m_leaders m_home m_feet m_far m_now m_isKept v.2.2.2.1 v.2.2.2.2.1 v.2.2.2.2.2.1 v.2.2.2.2.2.2 m_best m_seenAs m_seenAt m_plan) := by
  obtain ⟨c, m, hc, hm, hT, hcity, hmcity, hmarch, hnow, hh, hi0, hi1, hs, hp, htr, ho⟩ := h
  obtain ⟨K, p, q, k1, rfl, rfl, k4, k5, k6, k7, k8⟩ := pairs_of hs hc.1
  obtain ⟨g1, g2, g3, g4⟩ := nn_ok hc hm
  have bad : x1 < (-1 : Int32) ∨ (¬ x1 < (-1 : Int32) ∧ (5 : Int32) < x1 ∧ ¬ x1 < (6 : Int32)) → ∃ u v, (fX9_fits N c_map_streets c_map_leaders c_map_first c_map_second c_map_hours c_map_home c_map_feet c_map_far c_march_at c_march_hour c_march_fines c_march_led c_march_taken c_march_shut c_row_size c_row_homes c_row_told c_row_leading c_row_ended c_row_march_at c_row_march_hour c_row_march_fines c_row_march_led c_row_march_taken c_row_march_shut (nI K) c_sights_as c_sights_corner x1) = some u ∧ (fX10_fits N m_rowLong m_homes (nI K) m_streets m_ends m_time m_leaders m_home m_feet m_far m_now m_tried m_row m_who m_then m_seenAs m_seenAt x1) = some v ∧ u.1 = v.1 ∧ (RR c_traced c_text_length c_text_place c_text_start c_text_token c_text_value c_text_bytes c_map_corners c_map_streets c_map_leaders c_map_first c_map_second c_map_hours c_map_home c_map_feet c_map_far c_draft_corners c_draft_streets c_draft_leaders c_draft_first c_draft_second c_draft_hours c_draft_home c_draft_feet c_draft_far c_march_at c_march_hour c_march_fines c_march_led c_march_taken c_march_shut c_history_size c_history_past c_images0_kept c_images0_march_at c_images0_march_hour c_images0_march_fines c_images0_march_led c_images0_march_taken c_images0_march_shut c_images0_history_size c_images0_history_past c_images1_kept c_images1_march_at c_images1_march_hour c_images1_march_fines c_images1_march_led c_images1_march_taken c_images1_march_shut c_images1_history_size c_images1_history_past u.2.1 u.2.2.1 u.2.2.2.1 u.2.2.2.2.1 u.2.2.2.2.2.1 u.2.2.2.2.2.2.1 u.2.2.2.2.2.2.2.1 u.2.2.2.2.2.2.2.2.1 u.2.2.2.2.2.2.2.2.2.1 u.2.2.2.2.2.2.2.2.2.2.1 u.2.2.2.2.2.2.2.2.2.2.2 c_outlook_fresh c_outlook_size c_outlook_door c_outlook_fines c_outlook_hours c_outlook_longestWalked c_outlook_walked c_outlook_ends c_outlook_happy c_outlook_leastBread c_outlook_mostBread c_outlook_hides c_outlook_best c_outlook_longest (nI K) c_sights_as c_sights_corner c_plan_size c_plan_going c_plan_told c_plan_able c_plan_march_at c_plan_march_hour c_plan_march_fines c_plan_march_led c_plan_march_taken c_plan_march_shut m_trace m_typed m_at m_start m_sort m_value m_fault v.2.1 v.2.2.1 m_bestValue (nI K) m_planMany m_text m_corners m_streets m_ends m_time m_leaders m_home m_feet m_far m_now m_isKept v.2.2.2.1 v.2.2.2.2.1 v.2.2.2.2.2.1 v.2.2.2.2.2.2 m_best m_seenAs m_seenAt m_plan) := by
    intro hb
    refine ⟨_, _, (by unfold fX9_fits; rcases hb with hb | hb; rw [if_pos hb]; rw [if_neg hb.1, if_neg hb.2.2]), (by unfold fX10_fits fX10_in; rcases hb with hb | hb; rw [if_pos hb, Option.bind_some, if_pos rfl]; rw [if_neg hb.1, if_pos hb.2.1, Option.bind_some, if_pos rfl]), ?_, ?_⟩
    · rfl
    exact ⟨c, m, hc, hm, hT, hcity, hmcity, hmarch, hnow, hh, hi0, hi1, hs, hp, htr, ho⟩
  have e5 : (5 : Int32).toInt = 5 := by decide
  have e6 : (6 : Int32).toInt = 6 := by decide
  have em1 : (-1 : Int32).toInt = -1 := by decide
  have e0 : (0 : Int32).toInt = 0 := by decide
  by_cases q1 : x1 < (-1 : Int32)
  · exact bad (Or.inl q1)
  by_cases q2 : (5 : Int32) < x1
  · refine bad (Or.inr ⟨q1, q2, fun z => ?_⟩)
    rw [Int32.lt_iff_toInt_lt] at q2 z
    omega
  have q6 : x1 < (6 : Int32) := by
    rw [Int32.lt_iff_toInt_lt] at q2 ⊢
    omega
  obtain ⟨y, hy⟩ : ∃ y, asked (nn c m) x1 y := by
    by_cases z : x1 < 0
    · exact ⟨none, Or.inl ⟨rfl, Or.inl z⟩⟩
    · by_cases z2 : nI (nn c m) ≤ x1
      · exact ⟨none, Or.inl ⟨rfl, Or.inr ⟨z, z2⟩⟩⟩
      · obtain ⟨j, hj, rfl⟩ := nI_of z
        exact ⟨some j, Or.inr ⟨j, rfl, Nat.not_le.mp (fun w => z2 (nI_le w hj)), rfl⟩⟩
  obtain ⟨b, f1', f2⟩ := begin_ok (N := N) (sz := c_row_size) (a := c_row_told) (u := mmL m) (L := mcL c) (by omega) hc.2.2.1 (by have := hm.2.1; have : 2 ^ mcL c ≤ 2 ^ 6 := Nat.pow_le_pow_right (by omega) hc.2.2.1; omega)
  rw [← hcity.2.2.1, ← hmarch.2.2.2.1] at f1'
  obtain ⟨b', h1', h2'⟩ := mfirst_ok hN hc hmcity hm hnow m_rowLong m_row
  obtain ⟨w1, w2, w3, w4, w5, w6, w7, w8, w9, w10, r3, d1, d2⟩ := cfits_loop (N := N) hN g1 hc hcity hm hmarch k1 k4 k5 k7 hy 720 0 N (tt c m) (0, 0) c_row_homes b c_row_leading c_row_ended c_row_march_at c_row_march_hour c_row_march_fines c_row_march_led c_row_march_taken c_row_march_shut (-9) (by omega) (by omega) g2 g3 g4 f2 (Or.inl ⟨rfl, rfl⟩) (by decide) (fun _ => rfl)
  obtain ⟨v1, v2, v3, v4, v5, s3, i1, i2⟩ := mfits_loop (N := N) hN g1 hc hmcity hm hnow k1 k4 k6 k8 hy (Or.inr q6) 720 N (tt c m) (0, 0) m_homes m_tried b' m_who m_then (by omega) g2 g3 g4 h2' (by decide)
  have d1 : fX9_fits_b36 N c_map_streets c_map_leaders c_map_first c_map_second c_map_hours c_map_home c_map_feet c_map_far c_march_at c_march_hour c_march_fines c_march_led c_march_taken c_march_shut (nI K) c_sights_as c_sights_corner x1 N (nI (nn c m)) c_row_homes b c_row_leading c_row_ended c_row_march_at c_row_march_hour c_row_march_fines c_row_march_led c_row_march_taken c_row_march_shut (0 : Int32) (-9 : Int32) (0 : Int32) = _ := d1
  have i1 : fX10_fits_b22 N (nI K) m_streets m_ends m_time m_leaders m_home m_feet m_far m_now m_seenAs m_seenAt x1 N (nI (nn c m)) m_homes m_tried b' m_who m_then (1 : Int32) (0 : Int32) (0 : Int32) = _ := i1
  have f1' : fX6_begin N c_row_size c_row_told c_map_leaders c_march_led = some (nI (nn c m), b) := f1'
  refine ⟨_, _, (by unfold fX9_fits; rw [if_neg q1, if_pos q6, f1', Option.bind_some]; dsimp only; rw [d1]), (by unfold fX10_fits fX10_in; rw [if_neg q1, if_neg q2, Option.bind_some, if_neg (show ¬ (1 : Int32) = 0 by decide), h1', Option.bind_some]; dsimp only; rw [i1]), ?_, ?_⟩
  · dsimp only
    rw [srep_fun d2 i2]
  exact ⟨c, m, hc, hm, hT, hcity, hmcity, hmarch, hnow, hh, hi0, hi1, hs, hp, htr, ho⟩
