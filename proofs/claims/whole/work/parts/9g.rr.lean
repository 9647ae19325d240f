/-! what both keep alike -/
def RText (len typed : Int32) (B X : Nat → Int32) : Prop := ∃ k, k ≤ 150 ∧ len = nI k ∧ typed = nI k ∧ ∀ i, i < k → ∃ b, b < 256 ∧ B i = nI b ∧ X i = (nI b).toInt8.toInt32
def RHist (c : MC) (size : Int32) (past : Nat → Nat → Int32) (g : Nat → Int32) : Prop := ∃ k, k ≤ 10 ∧ size = nI k ∧ g 17 = nI k ∧ ∀ i, i < k → ∃ m, wfM c m ∧ CMarch m (past i 0) (past i 1) (past i 2) (past i 3) (past i 4) (past i 5) ∧ MMarch m (fun x => g (18 + 17 * i + x))
def RImg (c : MC) (kept a b d e f h size : Int32) (past : Nat → Nat → Int32) (km : Int32) (g : Nat → Int32) : Prop := (kept = 0 ∧ km = 0) ∨ (kept = 1 ∧ km = 1 ∧ (∃ m, wfM c m ∧ CMarch m a b d e f h ∧ MMarch m g) ∧ RHist c size past g)
def RPairs (b : Nat) (size msize : Int32) (p q P Q : Nat → Int32) : Prop := ∃ k, k ≤ 6 ∧ size = nI k ∧ msize = nI k ∧ ∀ i, i < k → ∃ x y, x < 6 ∧ y < b ∧ p i = nI x ∧ P i = nI x ∧ q i = nI y ∧ Q i = nI y
def RPlan (b : Nat) (size msize : Int32) (p P : Nat → Int32) : Prop := ∃ k, k ≤ 6 ∧ size = nI k ∧ msize = nI k ∧ ∀ i, i < k → ∃ x, x < b ∧ p i = nI x ∧ P i = nI x
def nn (c : MC) (m : MM) : Nat := (frN (mmL m) (mcL c)).1
def tt (c : MC) (m : MM) : Nat → Nat := (frN (mmL m) (mcL c)).2
def LL (c : MC) (m : MM) : List (Nat → Nat) := rowsL (nn c m) 720 (tt c m)
def bestF (c : MC) (m : MM) : RB := (LL c m).foldl (b1 c (nn c m) m) none
def longF (c : MC) (m : MM) : RLg := (LL c m).foldl (l1 c (nn c m) m) none
def allF (c : MC) (m : MM) : RO := (LL c m).foldl (o1 c (nn c m) m) (0, 0, 0, none, 0, 0)
def OutV (c : MC) (m : MM) (size door fines hours lw walked ends happy least most hides : Int32) (best longest : Nat → Int32) : Prop := size = nI (nn c m) ∧ brep (nn c m) (bestF c m) door fines hours best ∧ lrep (nn c m) (longF c m) lw longest ∧ ∃ e0, orep (wlk m) (allF c m) walked e0 happy least most hides ∧ ends = if mcC c = 0 then 0 else e0
def ROut (c : MC) (m : MM) (fresh size door fines hours lw walked ends happy least most hides : Int32) (best longest : Nat → Int32) : Prop := fresh = 0 ∨ (fresh = 1 ∧ OutV c m size door fines hours lw walked ends happy least most hides best longest)
def RR (c_traced : Int64) (c_text_length c_text_place c_text_start c_text_token c_text_value : Int32) (c_text_bytes : Nat → Int32) (c_map_corners c_map_streets c_map_leaders : Int32) (c_map_first c_map_second c_map_hours c_map_home c_map_feet : Nat → Int32) (c_map_far : Nat → Nat → Int32) (c_draft_corners c_draft_streets c_draft_leaders : Int32) (c_draft_first c_draft_second c_draft_hours c_draft_home c_draft_feet : Nat → Int32) (c_draft_far : Nat → Nat → Int32) (c_march_at c_march_hour c_march_fines c_march_led c_march_taken c_march_shut c_history_size : Int32) (c_history_past : Nat → Nat → Int32) (c_images0_kept c_images0_march_at c_images0_march_hour c_images0_march_fines c_images0_march_led c_images0_march_taken c_images0_march_shut c_images0_history_size : Int32) (c_images0_history_past : Nat → Nat → Int32) (c_images1_kept c_images1_march_at c_images1_march_hour c_images1_march_fines c_images1_march_led c_images1_march_taken c_images1_march_shut c_images1_history_size : Int32) (c_images1_history_past : Nat → Nat → Int32) (c_row_size c_row_homes : Int32) (c_row_told c_row_leading c_row_ended : Nat → Int32) (c_row_march_at c_row_march_hour c_row_march_fines c_row_march_led c_row_march_taken c_row_march_shut c_outlook_fresh c_outlook_size c_outlook_door c_outlook_fines c_outlook_hours c_outlook_longestWalked c_outlook_walked c_outlook_ends c_outlook_happy c_outlook_leastBread c_outlook_mostBread c_outlook_hides : Int32) (c_outlook_best c_outlook_longest : Nat → Int32) (c_sights_size : Int32) (c_sights_as c_sights_corner : Nat → Int32) (c_plan_size c_plan_going : Int32) (c_plan_told c_plan_able : Nat → Int32) (c_plan_march_at c_plan_march_hour c_plan_march_fines c_plan_march_led c_plan_march_taken c_plan_march_shut : Int32) (m_trace : Int64) (m_typed m_at m_start m_sort m_value m_fault m_rowLong m_homes m_bestValue m_seen m_planMany : Int32) (m_text m_corners m_streets m_ends m_time m_leaders m_home m_feet m_far m_now m_isKept m_tried m_row m_who m_then m_best m_seenAs m_seenAt m_plan : Nat → Int32) : Prop := ∃ (c : MC) (m : MM), wfC c ∧ wfM c m ∧ RText c_text_length m_typed c_text_bytes m_text ∧ CCity c c_map_corners c_map_streets c_map_leaders c_map_first c_map_second c_map_hours c_map_home c_map_feet c_map_far ∧ MCity c m_corners m_streets m_leaders m_ends m_time m_home m_feet m_far ∧ CMarch m c_march_at c_march_hour c_march_fines c_march_led c_march_taken c_march_shut ∧ MMarch m m_now ∧ RHist c c_history_size c_history_past m_now ∧ RImg c c_images0_kept c_images0_march_at c_images0_march_hour c_images0_march_fines c_images0_march_led c_images0_march_taken c_images0_march_shut c_images0_history_size c_images0_history_past (m_isKept 0) (fun x => m_now (188 + x)) ∧ RImg c c_images1_kept c_images1_march_at c_images1_march_hour c_images1_march_fines c_images1_march_led c_images1_march_taken c_images1_march_shut c_images1_history_size c_images1_history_past (m_isKept 1) (fun x => m_now (376 + x)) ∧ RPairs (mcC c) c_sights_size m_seen c_sights_as c_sights_corner m_seenAs m_seenAt ∧ RPlan (mcL c) c_plan_size m_planMany c_plan_told m_plan ∧ c_traced = m_trace ∧ ROut c m c_outlook_fresh c_outlook_size c_outlook_door c_outlook_fines c_outlook_hours c_outlook_longestWalked c_outlook_walked c_outlook_ends c_outlook_happy c_outlook_leastBread c_outlook_mostBread c_outlook_hides c_outlook_best c_outlook_longest
theorem nn_ok {c : MC} {m : MM} (hc : wfC c) (hm : wfM c m) : nn c m ≤ 6 ∧ ends (nn c m) 720 (tt c m) = true ∧ (∀ x, tt c m x < 2 ^ 31) ∧ good c (nn c m) 0 (tt c m) m := by
  obtain ⟨h1, h2, h3, h4⟩ := fr_in (mmL m) (mcL c)
  have hL := hc.2.2.1
  refine ⟨by show (frN (mmL m) (mcL c)).1 ≤ 6; omega, fr_ends hL hm.2.1, fun x => by have := h2 x; show (frN (mmL m) (mcL c)).2 x < _; omega, fun i _ hi => h3 i hi, fun i j _ _ hi hj e => ?_⟩
  rcases Nat.lt_trichotomy i j with h | h | h
  · have := h4 i j h hj
    have e : (frN (mmL m) (mcL c)).2 i = (frN (mmL m) (mcL c)).2 j := e
    omega
  · exact h
  · have := h4 j i h hi
    have e : (frN (mmL m) (mcL c)).2 i = (frN (mmL m) (mcL c)).2 j := e
    omega
theorem lookOut_ok {N : Nat} {c : MC} {m : MM} {cor str lea : Int32} {fi se ho hoM fe : Nat → Int32} {far : Nat → Nat → Int32} {z1 z2 z3 z4 z5 z6 : Int32} (hN : 1000 ≤ N) (hc : wfC c) (hcc : CCity c cor str lea fi se ho hoM fe far) (hm : wfM c m) (hmm : CMarch m z1 z2 z3 z4 z5 z6) (row_size : Int32) (homes : Int32) (told : Nat → Int32) (leading : Nat → Int32) (ended : Nat → Int32) (q1 : Int32) (q2 : Int32) (q3 : Int32) (q4 : Int32) (q5 : Int32) (q6 : Int32) (fresh : Int32) (size : Int32) (door : Int32) (fines : Int32) (hours : Int32) (lw : Int32) (walked : Int32) (ends : Int32) (happy : Int32) (least : Int32) (most : Int32) (hides : Int32) (best : Nat → Int32) (longest : Nat → Int32) (h : ROut c m fresh size door fines hours lw walked ends happy least most hides best longest) :
    ∃ (x1 : Int32) (x2 : Int32) (x3 : Nat → Int32) (x4 : Nat → Int32) (x5 : Nat → Int32) (x6 : Int32) (x7 : Int32) (x8 : Int32) (x9 : Int32) (x10 : Int32) (x11 : Int32) (yd : Int32) (yf : Int32) (yh : Int32) (ylw : Int32) (yw : Int32) (ye : Int32) (yhp : Int32) (yle : Int32) (ymo : Int32) (yhi : Int32) (ybest : Nat → Int32) (ylong : Nat → Int32), fX9_lookOut N cor str lea fi se ho hoM fe far z1 z2 z3 z4 z5 z6 row_size homes told leading ended q1 q2 q3 q4 q5 q6 fresh size door fines hours lw walked ends happy least most hides best longest = some (x1, x2, x3, x4, x5, x6, x7, x8, x9, x10, x11, (1 : Int32), nI (nn c m), yd, yf, yh, ylw, yw, ye, yhp, yle, ymo, yhi, ybest, ylong) ∧ OutV c m (nI (nn c m)) yd yf yh ylw yw ye yhp yle ymo yhi ybest ylong := by
  unfold fX9_lookOut
  rcases h with h | ⟨h, hv⟩
  · rw [if_pos h]
    obtain ⟨g1, g2, g3, g4⟩ := nn_ok hc hm
    have hmm2 := hmm
    have hcc2 := hcc
    obtain ⟨rfl, rfl, rfl, rfl, rfl, T, rfl, hT⟩ := hmm
    obtain ⟨rfl, rfl, rfl, hcc4⟩ := hcc
    obtain ⟨b, f1, f2⟩ := begin_ok (N := N) (sz := row_size) (a := told) (u := mmL m) (L := mcL c) (by omega) hc.2.2.1 (by have := hm.2.1; have : 2 ^ mcL c ≤ 2 ^ 6 := Nat.pow_le_pow_right (by omega) hc.2.2.1; omega)
    unfold fX4_begin
    rw [walked_c hT hm.2.2.2.1, Option.bind_some, Option.bind_some, f1, Option.bind_some]
    dsimp only
    have hw := wlk_lt (mmK m) 12
    obtain ⟨x1, x2, x3, x4, x5, x6, x7, x8, x9, x10, x11, yd, yf, yh, ylw, yw, ye, yhp, yle, ymo, yhi, ybest, ylong, e1, e2, e3, e4⟩ := look_loop (N := N) hN g1 hc hcc2 hm hmm2 720 0 N (tt c m) none none (0, 0, 0, none, 0, 0) (nI (nn c m)) homes b leading ended q1 q2 q3 q4 q5 q6 fresh 0 (-9) fines hours (-9) (nI (wlk m)) 0 0 216 0 0 best longest (by omega) (by omega) g2 g3 g4 rfl f2 rfl rfl ⟨by rw [Nat.or_zero], by decide, rfl, by decide, rfl, by decide, rfl, fun v hv => (by cases hv), rfl, by decide, rfl, by decide⟩
    exact ⟨x1, x2, x3, x4, x5, x6, x7, x8, x9, x10, x11, yd, yf, yh, ylw, yw, ye, yhp, yle, ymo, yhi, ybest, ylong, e1, rfl, e2, e3, e4⟩
  · subst h
    rw [if_neg (by decide)]
    obtain ⟨rfl, hv2⟩ := hv
    exact ⟨_, _, _, _, _, _, _, _, _, _, _, _, _, _, _, _, _, _, _, _, _, _, _, rfl, rfl, hv2⟩
theorem x_cases {x : Int32} (k : Nat) (hk : k < 1000) : x < 0 ∨ (∃ j, j < k ∧ x = nI j) ∨ ∃ j, k ≤ j ∧ j < 2 ^ 31 ∧ x = nI j := by
  by_cases h : x < 0
  · exact Or.inl h
  · obtain ⟨j, hj, e⟩ := nI_of h
    by_cases q : j < k
    · exact Or.inr (Or.inl ⟨j, q, e⟩)
    · exact Or.inr (Or.inr ⟨j, by omega, hj, e⟩)
theorem x_neg3 {x : Int32} (h : x < 0) (h3 : ¬ x < (-3 : Int32)) : x = (-3 : Int32) ∨ x = (-2 : Int32) ∨ x = (-1 : Int32) := by
  rw [Int32.lt_iff_toInt_lt] at h h3
  have e0 : (0 : Int32).toInt = 0 := by decide
  have e3 : (-3 : Int32).toInt = -3 := by decide
  have e2 : (-2 : Int32).toInt = -2 := by decide
  have e1 : (-1 : Int32).toInt = -1 := by decide
  rw [e0] at h
  rw [e3] at h3
  rcases (show x.toInt = -3 ∨ x.toInt = -2 ∨ x.toInt = -1 by omega) with e | e | e
  · exact Or.inl (Int32.toInt_inj.mp (e.trans e3.symm))
  · exact Or.inr (Or.inl (Int32.toInt_inj.mp (e.trans e2.symm)))
  · exact Or.inr (Or.inr (Int32.toInt_inj.mp (e.trans e1.symm)))
