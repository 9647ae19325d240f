/-! both walk a ROW alike -/
theorem take_loop {N : Nat} {now : Nat → Int32} : ∀ (j k fu : Nat) (a : Nat → Int32), k + j = 17 → j < fu → (∀ i, i < k → a i = now i) → ∃ b, fX10_take_b2 N now fu a (nI k) = some b ∧ ∀ i, i < 17 → b i = now i := by
  intro j
  induction j with
  | zero =>
    intro k fu a h1 h2 h3
    obtain ⟨fu, rfl⟩ : ∃ j, fu = j + 1 := ⟨fu - 1, by omega⟩
    rw [fX10_take_b2, if_pos (by rw [show (17 : Int32) = nI 17 from rfl]; exact nI_le (by omega) (by omega))]
    exact ⟨a, rfl, fun i hi => h3 i (by omega)⟩
  | succ j ih =>
    intro k fu a h1 h2 h3
    obtain ⟨fu, rfl⟩ : ∃ j, fu = j + 1 := ⟨fu - 1, by omega⟩
    rw [fX10_take_b2, if_neg (by rw [show (17 : Int32) = nI 17 from rfl]; exact dj (by omega) (by omega)), gi_ok (by omega) (by omega), gi_ok (by omega) (by omega), cl (by omega), nI_1]
    refine ih (k + 1) fu _ (by omega) (by omega) (fun i hi => ?_)
    by_cases e : i = k
    · subst e
      rw [pk_us]
    · rw [pk_un e]
      exact h3 i (by omega)
theorem MMarch_eq {m : MM} {a b : Nat → Int32} (h : MMarch m a) (e : ∀ i, i < 17 → b i = a i) : MMarch m b := by
  obtain ⟨a0, a1, a2, a3, a4, a5⟩ := h
  exact ⟨by rw [e 0 (by omega)]; exact a0, by rw [e 1 (by omega)]; exact a1, by rw [e 2 (by omega)]; exact a2, by rw [e 3 (by omega)]; exact a3, by rw [e 4 (by omega)]; exact a4, fun s hs => by rw [e _ (by omega)]; exact a5 s hs⟩
theorem mtake_ok {N : Nat} {m : MM} {now tried : Nat → Int32} (hN : 20 ≤ N) (h : MMarch m now) : ∃ b, fX10_take N now tried = some b ∧ MMarch m b := by
  obtain ⟨b, h1, h2⟩ := take_loop (N := N) (now := now) 17 0 N tried (by omega) (by omega) (fun i hi => absurd hi (by omega))
  exact ⟨b, h1, MMarch_eq h h2⟩
theorem holds_upd {n k v : Nat} {t : Nat → Nat} {a : Nat → Int32} (h : holds k t a) : holds (k + 1) (updN t k v) (upd a k (nI v)) := by
  intro i hi
  unfold updN
  by_cases e : i = k
  · subst e
    rw [pk_us, if_pos rfl]
  · rw [pk_un e, if_neg e]
    exact h i (by omega)
section RL
variable {N n : Nat} {c : MC} {co st le en ti ho fe far now row : Nat → Int32}
theorem run_loop (hN : 20 ≤ N) (hn : n ≤ 6) (hc : wfC c) (hcc : MCity c co st le en ti ho fe far) : ∀ (j k fu : Nat) (w : Nat → Nat) (m : MM) (th : Nat → Nat) (hs : Nat) (tried who then' : Nat → Int32), k + j = n → j < fu → wfM c m → good c n k w m → MMarch m tried → holds n w who → holds k th then' →
    ∃ tr' wh' th', fX10_run_b39 N (nI n) st en ti ho fe far now row fu (nI hs) tried who then' (nI k) = some (nI (runS c n j k w m th hs).2.2.2, tr', wh', th') ∧ MMarch (runS c n j k w m th hs).2.1 tr' ∧ holds n (runS c n j k w m th hs).1 wh' ∧ holds n (runS c n j k w m th hs).2.2.1 th' := by
  intro j
  induction j with
  | zero =>
    intro k fu w m th hs tried who then' h1 h2 h3 h4 h5 h6 h7
    obtain ⟨fu, rfl⟩ : ∃ j, fu = j + 1 := ⟨fu - 1, by omega⟩
    have e : k = n := by omega
    subst e
    rw [fX10_run_b39, if_pos (nI_le (Nat.le_refl _) (by omega))]
    exact ⟨tried, who, then', rfl, h5, h6, h7⟩
  | succ j ih =>
    intro k fu w m th hs tried who then' h1 h2 h3 h4 h5 h6 h7
    obtain ⟨fu, rfl⟩ : ∃ j, fu = j + 1 := ⟨fu - 1, by omega⟩
    have hwk := h4.1 k (Nat.le_refl _) (by omega)
    have hL := hc.2.2.1
    have hm2 := leadS_wf hc h3 hwk.1 hwk.2
    have hg2 := wn_good (by omega) h4
    obtain ⟨q, q1, q2, q3⟩ := lead_ok (N := N) (n1 := 17) (by omega) hc hcc h3 h5 hwk.1 (by omega) (by omega)
    obtain ⟨p1', p2, p3⟩ := hc.2.2.2.2.1 _ hwk.1
    have hC := hc.1
    have hho := (hcc.2.2.2.2.1 _ hwk.1).1
    have ha2 : mmA (leadS c m (w k)).2 < 2 ^ 31 := by
      have := hm2.1
      omega
    rw [fX10_run_b39, if_neg (dj (by omega) (by omega)), gi_ok (by omega) (by omega), cl (show k < 2 ^ 31 by omega), h6 k (by omega), q3, Option.bind_some]
    have b81 : ∀ who' : Nat → Int32, holds n (wn c n k w m) who' → ∃ tr' wh' th', fX10_run_b81 N (nI n) st en ti ho fe far now row (fun t_homes t_tried t_who t_then x1 => fX10_run_b39 N (nI n) st en ti ho fe far now row fu t_homes t_tried t_who t_then x1) (nI hs) q who' then' (nI k) = some (nI (runS c n (j + 1) k w m th hs).2.2.2, tr', wh', th') ∧ MMarch (runS c n (j + 1) k w m th hs).2.1 tr' ∧ holds n (runS c n (j + 1) k w m th hs).1 wh' ∧ holds n (runS c n (j + 1) k w m th hs).2.2.1 th' := by
      intro who' hw'
      have ewk : who' k = nI (w k) := by rw [hw' k (by omega), wn_le (Nat.le_refl _)]
      unfold fX10_run_b81 fX10_run_b123
      rw [gi_ok (by omega) (by omega), gi_ok (by omega) (by omega), gi_ok (by omega) (by omega), cl (show k < 2 ^ 31 by omega), ewk, gi_ok (by omega) (by omega), cl (show w k < 2 ^ 31 by omega), pk_us, hho, cl0, q1.1, nI_1]
      have h8 := holds_upd (n := n) (v := mmA (leadS c m (w k)).2) h7
      unfold runS
      by_cases e : mmA (leadS c m (w k)).2 = mcH c (w k)
      · rw [if_pos (congrArg nI e), if_pos e, nI_1]
        exact ih (k + 1) fu _ _ _ _ q who' _ (by omega) (by omega) hm2 hg2 q1 hw' h8
      · rw [if_neg (fun z => e ((nI_eq ha2 (by omega)).mp z)), if_neg e, show nI hs + (0 : Int32) = nI (hs + 0) from by rw [show (0 : Int32) = nI 0 from rfl, nI_add], nI_1]
        exact ih (k + 1) fu _ _ _ _ q who' _ (by omega) (by omega) hm2 hg2 q1 hw' h8
    cases e : (leadS c m (w k)).1 with
    | false =>
      rw [if_pos (show bI false = 0 from rfl)]
      exact b81 who (by unfold wn; rw [e]; exact h6)
    | true =>
      rw [if_neg (show ¬ bI true = 0 by decide), nI_1, show (1 : Int32) = nI 1 from rfl, pk_sub (by omega)]
      obtain ⟨b, g1, g2⟩ := turnFrom_ok (N := N) hN hn (lo := k + 1) (by omega) (by omega) h6
      rw [g1, Option.bind_some]
      exact b81 b (by unfold wn; rw [e, if_pos rfl]; exact g2)
theorem run_ok (hN : 20 ≤ N) (hn : n ≤ 6) (hc : wfC c) (hcc : MCity c co st le en ti ho fe far) {t : Nat → Nat} {m : MM} {x : Int32} {tried who then' : Nat → Int32} (hm : wfM c m) (hg : good c n 0 t m) (hmm : MMarch m now) (ht : holds n t row) :
    ∃ tr' wh' th', fX10_run N (nI n) x st en ti ho fe far now tried row who then' = some (nI (runS c n n 0 t m (fun _ => 0) 0).2.2.2, tr', wh', th') ∧ MMarch (runS c n n 0 t m (fun _ => 0) 0).2.1 tr' ∧ holds n (runS c n n 0 t m (fun _ => 0) 0).1 wh' ∧ holds n (runS c n n 0 t m (fun _ => 0) 0).2.2.1 th' := by
  have cp : ∀ (j k fu : Nat) (who : Nat → Int32) (tr : Nat → Int32), k + j = n → j < fu → holds k t who → MMarch m tr → ∃ tr' wh' th', fX10_run_b11 N (nI n) st en ti ho fe far now row fu (0 : Int32) tr who then' (nI k) = some (nI (runS c n n 0 t m (fun _ => 0) 0).2.2.2, tr', wh', th') ∧ MMarch (runS c n n 0 t m (fun _ => 0) 0).2.1 tr' ∧ holds n (runS c n n 0 t m (fun _ => 0) 0).1 wh' ∧ holds n (runS c n n 0 t m (fun _ => 0) 0).2.2.1 th' := by
    intro j
    induction j with
    | zero =>
      intro k fu who tr h1 h2 h3 h4
      obtain ⟨fu, rfl⟩ : ∃ j, fu = j + 1 := ⟨fu - 1, by omega⟩
      have e : k = n := by omega
      subst e
      rw [fX10_run_b11, if_pos (nI_le (Nat.le_refl _) (by omega))]
      exact run_loop hN hn hc hcc k 0 N t m _ 0 tr who then' (by omega) (by omega) hm hg h4 h3 (fun i hi => absurd hi (by omega))
    | succ j ih =>
      intro k fu who tr h1 h2 h3 h4
      obtain ⟨fu, rfl⟩ : ∃ j, fu = j + 1 := ⟨fu - 1, by omega⟩
      rw [fX10_run_b11, if_neg (dj (by omega) (by omega)), gi_ok (by omega) (by omega), gi_ok (by omega) (by omega), cl (by omega), nI_1]
      refine ih (k + 1) fu _ tr (by omega) (by omega) (fun i hi => ?_) h4
      by_cases e : i = k
      · subst e
        rw [pk_us]
        exact ht i (by omega)
      · rw [pk_un e]
        exact h3 i (by omega)
  obtain ⟨b, g1, g2⟩ := mtake_ok (N := N) (tried := tried) hN hmm
  unfold fX10_run
  rw [g1, Option.bind_some]
  exact cp n 0 N who b (by omega) (by omega) (fun i hi => absurd hi (by omega)) g2
end RL
