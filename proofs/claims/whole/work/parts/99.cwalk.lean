section CW
variable {N n : Nat} {c : MC} {cor str lea : Int32} {fi se ho hoM fe told : Nat → Int32} {far : Nat → Nat → Int32} {t : Nat → Nat} {z1 z2 z3 z4 z5 z6 sh : Int32}
/-- who is told from here on, told from the front or from the rear -/
def wrem (t w : Nat → Nat) (k j front R : Nat) (b : Bool) : Prop := ∀ i, i < j → w (k + i) = if b then t (R - 1 - i) else t (front + i)
theorem wrem_next {c : MC} {n k j front : Nat} {t w : Nat → Nat} {m : MM} {b : Bool} (hn : k + (j + 1) = n) (h : wrem t w k (j + 1) front (front + (j + 1)) b) :
    wrem t (wn c n k w m) (k + 1) j (if b then front else front + 1) (if b then front + j else front + (j + 1)) (b ^^ (leadS c m (w k)).1) := by
  intro i hi
  have h1 := h (i + 1) (by omega)
  have h2 := h (j - i) (by omega)
  unfold wn
  cases e : (leadS c m (w k)).1 with
  | false =>
    rw [if_neg (by decide), show k + 1 + i = k + (i + 1) by omega, h1]
    cases b
    · show t _ = t _
      exact congrArg t (by simp only [Bool.false_eq_true, if_false]; omega)
    · show t _ = t _
      exact congrArg t (by simp only [if_true]; omega)
  | true =>
    rw [if_pos rfl]
    unfold rvN
    rw [if_pos (by omega), show k + 1 + (n - (k + 1)) - 1 - (k + 1 + i - (k + 1)) = k + (j - i) by omega, h2]
    cases b
    · show t _ = t _
      exact congrArg t (by simp only [Bool.false_eq_true, if_false]; omega)
    · show t _ = t _
      exact congrArg t (by simp only [if_true]; omega)
theorem walk_loop (hN : 20 ≤ N) (hn : n ≤ 6) (hc : wfC c) (hcc : CCity c cor str lea fi se ho hoM fe far) (ht : holds n t told) : ∀ (j k fu : Nat) (w : Nat → Nat) (m : MM) (th : Nat → Nat) (hs front : Nat) (b : Bool) (ld en : Nat → Int32) (T : Nat), k + j = n → front + j ≤ n → j < fu → wfM c m → good c n k w m → sh = nI (mmS m) → tkn (mmK m) T → wrem t w k j front (front + j) b → holds k w ld → holds k th en →
    ∃ ld' en' T', fX6_walk_b29 N (nI n) told str lea fi se ho hoM fe far z1 z2 z3 z4 z5 z6 fu (nI hs) ld en (nI (mmA m)) (nI (mmH m)) (nI (mmF m)) (nI (mmL m)) (nI T) sh (nI front) (em (front + j)) (bI b) (nI k) =
      some (nI (runS c n j k w m th hs).2.2.2, ld', en', nI (mmA (runS c n j k w m th hs).2.1), nI (mmH (runS c n j k w m th hs).2.1), nI (mmF (runS c n j k w m th hs).2.1), nI (mmL (runS c n j k w m th hs).2.1), nI T', sh) ∧ tkn (mmK (runS c n j k w m th hs).2.1) T' ∧ holds n (runS c n j k w m th hs).1 ld' ∧ holds n (runS c n j k w m th hs).2.2.1 en' := by
  intro j
  induction j with
  | zero =>
    intro k fu w m th hs front b ld en T h1 h1' h2 h3 h4 hsh hT hw hld hen
    obtain ⟨fu, rfl⟩ : ∃ j, fu = j + 1 := ⟨fu - 1, by omega⟩
    have e : k = n := by omega
    subst e
    rw [fX6_walk_b29, if_pos (nI_le (Nat.le_refl _) (by omega))]
    exact ⟨ld, en, T, rfl, hT, hld, hen⟩
  | succ j ih =>
    intro k fu w m th hs front b ld en T h1 h1' h2 h3 h4 hsh hT hw hld hen
    obtain ⟨fu, rfl⟩ : ∃ j, fu = j + 1 := ⟨fu - 1, by omega⟩
    have hwk := h4.1 k (Nat.le_refl _) (by omega)
    have hL := hc.2.2.1
    have hC := hc.1
    have hm2 := leadS_wf hc h3 hwk.1 hwk.2
    have hg2 := wn_good (by omega) h4
    obtain ⟨T2, hT2, q3⟩ := goBy_ok (N := N) (by omega) hc hcc h3 (show CMarch m (nI (mmA m)) (nI (mmH m)) (nI (mmF m)) (nI (mmL m)) (nI T) sh from ⟨rfl, rfl, rfl, rfl, hsh, T, rfl, hT⟩) hwk.1
    obtain ⟨p1', p2, p3⟩ := hc.2.2.2.2.1 _ hwk.1
    have hho := (hcc.2.2.2.2.1 _ hwk.1).1
    have ha2 : mmA (leadS c m (w k)).2 < 2 ^ 31 := by
      have := hm2.1
      omega
    have hw0 := hw 0 (by omega)
    have hnext := wrem_next (c := c) (m := m) h1 hw
    -- what follows once it is known from where the next one is told
    have b100 : ∀ (front' : Nat) (b' : Bool) (x4 x5 : Int32), x4 = em (front' + j) → x5 = bI b' → front' + j ≤ n → wrem t (wn c n k w m) (k + 1) j front' (front' + j) b' → ∃ ld' en' T', fX6_walk_b100 N (nI n) told str lea fi se ho hoM fe far z1 z2 z3 z4 z5 z6 (fun t_homes t_leading t_ended t_march_at t_march_hour t_march_fines t_march_led t_march_taken t_march_shut x3 x4 x5 x6 => fX6_walk_b29 N (nI n) told str lea fi se ho hoM fe far z1 z2 z3 z4 z5 z6 fu t_homes t_leading t_ended t_march_at t_march_hour t_march_fines t_march_led t_march_taken t_march_shut x3 x4 x5 x6) (nI hs) ld en (nI (mmA (leadS c m (w k)).2)) (nI (mmH (leadS c m (w k)).2)) (nI (mmF (leadS c m (w k)).2)) (nI (mmL (leadS c m (w k)).2)) (nI T2) sh (nI front') x4 x5 (nI k) (nI (w k)) =
      some (nI (runS c n (j + 1) k w m th hs).2.2.2, ld', en', nI (mmA (runS c n (j + 1) k w m th hs).2.1), nI (mmH (runS c n (j + 1) k w m th hs).2.1), nI (mmF (runS c n (j + 1) k w m th hs).2.1), nI (mmL (runS c n (j + 1) k w m th hs).2.1), nI T', sh) ∧ tkn (mmK (runS c n (j + 1) k w m th hs).2.1) T' ∧ holds n (runS c n (j + 1) k w m th hs).1 ld' ∧ holds n (runS c n (j + 1) k w m th hs).2.2.1 en' := by
      intro front' b' x4 x5 e4 e5 hf hw'
      subst e4
      subst e5
      unfold fX6_walk_b100 fX6_walk_b150
      rw [gi_ok (by omega) (by omega), gi_ok (by omega) (by omega), gi_ok (by omega) (by omega), cl (show w k < 2 ^ 31 by omega), cl (show k < 2 ^ 31 by omega), hho]
      have hld2 : holds (k + 1) (wn c n k w m) (upd ld k (nI (w k))) := by
        intro i hi
        rw [wn_le (by omega)]
        by_cases e : i = k
        · subst e
          rw [pk_us]
        · rw [pk_un e]
          exact hld i (by omega)
      have hen2 := holds_upd (n := n) (v := mmA (leadS c m (w k)).2) hen
      unfold runS
      by_cases e : mmA (leadS c m (w k)).2 = mcH c (w k)
      · rw [if_pos (congrArg nI e), if_pos e, nI_1, nI_1]
        exact ih (k + 1) fu _ _ _ _ front' b' _ _ T2 (by omega) hf (by omega) hm2 hg2 hsh hT2 hw' hld2 hen2
      · rw [if_neg (fun z => e ((nI_eq ha2 (by omega)).mp z)), if_neg e, nI_1]
        exact ih (k + 1) fu _ _ _ _ front' b' _ _ T2 (by omega) hf (by omega) hm2 hg2 hsh hT2 hw' hld2 hen2
    rw [fX6_walk_b29, if_neg (dj (by omega) (by omega))]
    unfold fX6_walk_b59 fX6_walk_b75 fX6_walk_b98
    cases b with
    | false =>
      have hw0 : w k = t front := hw0
      rw [if_pos (show bI false = 0 from rfl), gi_ok (by omega) (by omega), cl (show front < 2 ^ 31 by omega), ht front (by omega), ← hw0, if_pos (show bI false = 0 from rfl), q3, Option.bind_some]
      cases e : (leadS c m (w k)).1 with
      | false =>
        rw [e] at hnext
        rw [if_pos (show bI false = 0 from rfl), nI_1]
        exact b100 (front + 1) false _ _ (congrArg em (by omega)) rfl (by omega) (by rw [show front + 1 + j = front + (j + 1) by omega]; exact hnext)
      | true =>
        rw [e] at hnext
        rw [if_neg (show ¬ bI true = 0 by decide), if_pos (show bI false = 0 from rfl), nI_1]
        exact b100 (front + 1) true _ _ (congrArg em (by omega)) rfl (by omega) (by rw [show front + 1 + j = front + (j + 1) by omega]; exact hnext)
    | true =>
      have hw0 : w k = t (front + j) := hw0
      have e4 : em (front + (j + 1)) + (-1 : Int32) = em (front + j) := em_m1 (front + j)
      have e5 : em (front + (j + 1)) = nI (front + j) := rfl
      rw [if_neg (show ¬ bI true = 0 by decide), e4, e5, gi_ok (by omega) (by omega), cl (show front + j < 2 ^ 31 by omega), ht (front + j) (by omega), ← hw0, if_neg (show ¬ bI true = 0 by decide), q3, Option.bind_some]
      cases e : (leadS c m (w k)).1 with
      | false =>
        rw [e] at hnext
        rw [if_pos (show bI false = 0 from rfl)]
        exact b100 front true _ _ rfl rfl (by omega) hnext
      | true =>
        rw [e] at hnext
        rw [if_neg (show ¬ bI true = 0 by decide), if_neg (show ¬ bI true = 0 by decide)]
        exact b100 front false _ _ rfl rfl (by omega) hnext
theorem walk_ok (hN : 20 ≤ N) (hn : n ≤ 6) (hc : wfC c) (hcc : CCity c cor str lea fi se ho hoM fe far) {m : MM} (hm : wfM c m) (hg : good c n 0 t m) (hmm : CMarch m z1 z2 z3 z4 z5 z6) (ht : holds n t told) {y0 y1 y2 y3 y4 y5 y6 : Int32} {ld en : Nat → Int32} :
    ∃ ld' en' T', fX6_walk N (nI n) y0 told ld en y1 y2 y3 y4 y5 y6 str lea fi se ho hoM fe far z1 z2 z3 z4 z5 z6 =
      some (nI (runS c n n 0 t m (fun _ => 0) 0).2.2.2, ld', en', nI (mmA (runS c n n 0 t m (fun _ => 0) 0).2.1), nI (mmH (runS c n n 0 t m (fun _ => 0) 0).2.1), nI (mmF (runS c n n 0 t m (fun _ => 0) 0).2.1), nI (mmL (runS c n n 0 t m (fun _ => 0) 0).2.1), nI T', nI (mmS m)) ∧ tkn (mmK (runS c n n 0 t m (fun _ => 0) 0).2.1) T' ∧ holds n (runS c n n 0 t m (fun _ => 0) 0).1 ld' ∧ holds n (runS c n n 0 t m (fun _ => 0) 0).2.2.1 en' := by
  obtain ⟨rfl, rfl, rfl, rfl, rfl, T, rfl, hT⟩ := hmm
  unfold fX6_walk fX3_become
  rw [Option.bind_some, show (nI n - (1 : Int32)) = em (0 + n) from by
    cases n with
    | zero => rfl
    | succ n => rw [show (1 : Int32) = nI 1 from rfl, pk_sub (by omega)]; show nI (n + 1 - 1) = nI (0 + n); exact nI_cong (by omega)]
  exact walk_loop hN hn hc hcc ht n 0 N t m (fun _ => 0) 0 0 false ld en T (by omega) (by omega) (by omega) hm hg rfl hT (fun i hi => rfl) (fun i hi => absurd hi (by omega)) (fun i hi => absurd hi (by omega))
end CW
