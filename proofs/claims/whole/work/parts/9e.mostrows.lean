/-! the model's longest ROW, and what all ROWS tell -/
section MO
variable {N n : Nat} {c : MC} {m : MM} {co st le en ti ho fe far now : Nat → Int32} {x1 : Int32}
theorem mcopy {K20 : Int32 → Int32 → (Nat → Int32) → (Nat → Int32) → (Nat → Int32) → (Nat → Int32) → (Nat → Int32) → Int32 → Int32 → Option (Int32 × Int32 × Int32 × (Nat → Int32) × (Nat → Int32) × (Nat → Int32) × (Nat → Int32) × (Nat → Int32))} {hs x3 : Int32} {tried row who then' : Nat → Int32} {t : Nat → Nat} (hn : n ≤ 6) (ht : holds n t row) : ∀ (j k fu : Nat) (best : Nat → Int32), k + j = n → j < fu → holds k t best → ∃ best', fX10_most_b53 N st en ti le ho fe far now x1 K20 fu (nI n) hs tried row who then' best x3 (nI k) = fX10_most_b82 N st en ti le ho fe far now x1 K20 (nI n) hs tried row who then' best' x3 ∧ holds n t best' := by
  intro j
  induction j with
  | zero =>
    intro k fu best h1 h2 h3
    obtain ⟨fu, rfl⟩ : ∃ j, fu = j + 1 := ⟨fu - 1, by omega⟩
    have e : k = n := by omega
    subst e
    rw [fX10_most_b53, if_pos (nI_le (Nat.le_refl _) (by omega))]
    exact ⟨best, rfl, h3⟩
  | succ j ih =>
    intro k fu best h1 h2 h3
    obtain ⟨fu, rfl⟩ : ∃ j, fu = j + 1 := ⟨fu - 1, by omega⟩
    rw [fX10_most_b53, if_neg (dj (by omega) (by omega)), gi_ok (by omega) (by omega), gi_ok (by omega) (by omega), cl (by omega), nI_1, ht k (by omega)]
    refine ih (k + 1) fu _ (by omega) (by omega) (fun i hi => ?_)
    by_cases e : i = k
    · subst e
      rw [pk_us]
    · rw [pk_un e]
      exact h3 i (by omega)
/-- the answer when all are walked -/
def mostR (n : Nat) (x1 ho' x3' : Int32) (tr' rw' wh' th' be' : Nat → Int32) : Option (Int32 × Int32 × Int32 × (Nat → Int32) × (Nat → Int32) × (Nat → Int32) × (Nat → Int32) × (Nat → Int32)) := if x1 = (-1 : Int32) then some (x3', nI n, ho', tr', rw', wh', th', be') else (if nI n ≤ x1 then some ((-9 : Int32), nI n, ho', tr', rw', wh', th', be') else gi x1 6 (some ((be' x1.toNatClampNeg), nI n, ho', tr', rw', wh', th', be')))
theorem most_loop (hN : 1000 ≤ N) (hn : n ≤ 6) (hc : wfC c) (hcc : MCity c co st le en ti ho fe far) (hm : wfM c m) (hmm : MMarch m now) : ∀ (k fu : Nat) (t : Nat → Nat) (b : RLg) (homes x3 : Int32) (tried row who then' best : Nat → Int32), k + 1 < fu → ends n k t = true → (∀ x, t x < 2 ^ 31) → good c n 0 t m → holds n t row → lrep n b x3 best →
    ∃ (ho' x3' : Int32) (tr' rw' wh' th' be' : Nat → Int32), fX10_most_b20 N st en ti le ho fe far now x1 fu (nI n) homes tried row who then' best (1 : Int32) x3 = mostR n x1 ho' x3' tr' rw' wh' th' be' ∧ lrep n ((rowsL n k t).foldl (l1 c n m) b) x3' be' := by
  intro k
  induction k with
  | zero => intro fu t b homes x3 tried row who then' best h1 h3; simp [ends] at h3
  | succ k ih =>
    intro fu t b homes x3 tried row who then' best h1 h3 ht31 hg hto hb
    obtain ⟨fu, rfl⟩ : ∃ j, fu = j + 1 := ⟨fu - 1, by omega⟩
    obtain ⟨r1, r2, r3, r4, r5, r6, r7, r8, r9⟩ := rr_ok hn hc hm hg
    obtain ⟨tr', wh', th', w1, w2, w3, w4⟩ := run_ok (N := N) (x := homes) (tried := tried) (who := who) (then' := then') (by omega) hn hc hcc hm hg hmm hto
    have w2 : MMarch (rr c n m t).2.1 tr' := w2
    obtain ⟨rn, bn, n1, n2⟩ := next_m (N := N) (by omega) hn ht31 hto
    have hp := pop_le (wlk (rr c n m t).2.1) 12
    have b82 : ∀ (y3 : Int32) (best' : Nat → Int32), lrep n (l1 c n m b t) y3 best' → ∃ (ho' x3' : Int32) (tr'' rw' wh'' th'' be' : Nat → Int32), fX10_most_b82 N st en ti le ho fe far now x1 (fun t_rowLong t_homes t_tried t_row t_who t_then t_best x2 x3 => fX10_most_b20 N st en ti le ho fe far now x1 fu t_rowLong t_homes t_tried t_row t_who t_then t_best x2 x3) (nI n) (nI (rr c n m t).2.2.2) tr' row wh' th' best' y3 = mostR n x1 ho' x3' tr'' rw' wh'' th'' be' ∧ lrep n ((rowsL n (k + 1) t).foldl (l1 c n m) b) x3' be' := by
      intro y3 best' hb'
      unfold fX10_most_b82
      rw [n1, Option.bind_some]
      unfold ends at h3
      rcases n2 with ⟨e1, rfl, rfl⟩ | ⟨t', e1, rfl, hto'⟩
      · have er : rowsL n (k + 1) t = [t] := by unfold rowsL; rw [e1]
        rw [er]
        obtain ⟨fu, rfl⟩ : ∃ j, fu = j + 1 := ⟨fu - 1, by omega⟩
        dsimp only
        rw [fX10_most_b20, if_pos rfl]
        exact ⟨_, _, _, _, _, _, _, rfl, hb'⟩
      · rw [e1] at h3
        have er : rowsL n (k + 1) t = t :: rowsL n k t' := by rw [rowsL, e1]
        rw [er]
        exact ih fu t' _ _ _ _ _ _ _ _ (by omega) h3 (nx_lt e1 ht31) (nx_good e1 hg) hto' hb'
    have new : l1 c n m b t = some (pop (wlk (rr c n m t).2.1) 12, t) → ∃ (ho' x3' : Int32) (tr'' rw' wh'' th'' be' : Nat → Int32), fX10_most_b53 N st en ti le ho fe far now x1 (fun t_rowLong t_homes t_tried t_row t_who t_then t_best x2 x3 => fX10_most_b20 N st en ti le ho fe far now x1 fu t_rowLong t_homes t_tried t_row t_who t_then t_best x2 x3) N (nI n) (nI (rr c n m t).2.2.2) tr' row wh' th' best (nI (pop (wlk (rr c n m t).2.1) 12)) (0 : Int32) = mostR n x1 ho' x3' tr'' rw' wh'' th'' be' ∧ lrep n ((rowsL n (k + 1) t).foldl (l1 c n m) b) x3' be' := by
      intro e
      obtain ⟨best', g1, g2⟩ := mcopy (N := N) (st := st) (en := en) (ti := ti) (le := le) (ho := ho) (fe := fe) (far := far) (now := now) (x1 := x1) (K20 := fun t_rowLong t_homes t_tried t_row t_who t_then t_best x2 x3 => fX10_most_b20 N st en ti le ho fe far now x1 fu t_rowLong t_homes t_tried t_row t_who t_then t_best x2 x3) (hs := nI (rr c n m t).2.2.2) (x3 := nI (pop (wlk (rr c n m t).2.1) 12)) (tried := tr') (who := wh') (then' := th') hn hto n 0 N best (by omega) (by omega) (fun i hi => absurd hi (by omega))
      rw [show (0 : Int32) = nI 0 from rfl, g1]
      exact b82 _ best' (by rw [e]; exact ⟨rfl, hp, g2⟩)
    rw [fX10_most_b20, if_neg (by decide), w1, Option.bind_some]
    dsimp only
    rw [walked_m (N := N) (c := c) (m := (rr c n m t).2.1) (by omega) hc.2.1 hcc.2.1 w2 (by omega) (by omega) r1.2.2.2.1 r1.2.2.2.2.1, Option.bind_some, manyOf_ok (by omega) (show wlk (rr c n m t).2.1 < 2 ^ 12 from wlk_lt _ 12), Option.bind_some]
    cases b with
    | none =>
      have hb : x3 = (-9 : Int32) := hb
      subst hb
      have q : ¬ nI (pop (wlk (rr c n m t).2.1) 12) ≤ (-9 : Int32) := fun z => nI_pos (n := pop (wlk (rr c n m t).2.1) 12) (by omega) (Int32.lt_of_le_of_lt z (by decide))
      rw [if_neg q]
      exact new rfl
    | some v =>
      obtain ⟨x, s⟩ := v
      obtain ⟨v1, v2, v3⟩ := hb
      have v1 : x3 = nI x := v1
      have v2 : x ≤ 12 := v2
      subst v1
      by_cases q : x < pop (wlk (rr c n m t).2.1) 12
      · rw [if_neg (nI_ge q (by omega))]
        exact new (if_pos q)
      · rw [if_pos (nI_le (by omega) (by omega))]
        refine b82 _ best ?_
        have e : l1 c n m (some (x, s)) t = some (x, s) := if_neg q
        rw [e]
        exact ⟨rfl, v2, v3⟩
end MO
