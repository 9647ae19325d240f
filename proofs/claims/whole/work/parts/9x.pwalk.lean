section PW
variable {N n : Nat} {c : MC} {m : MM} {p : Nat → Nat} {b : Nat → Bool}
theorem pl_all (hc : wfC c) (hm : wfM c m) (hp : ∀ i, i < n → p i < mcL c) : ∀ k, k ≤ n → ∀ i, i < (chS p (mmL m) k).1 → wfM c (plS c (chS p (mmL m) k).2.1 b m i) ∧ (mmL (plS c (chS p (mmL m) k).2.1 b m i)).testBit ((chS p (mmL m) k).2.1 i) = false
  | 0, _, i, hi => absurd hi (by show ¬ i < 0; omega)
  | k + 1, hk, i, hi => by
    have ih := pl_all hc hm hp k (by omega) i
    obtain ⟨h1, h2, h3, h4⟩ := pl_ok (b := b) hc hm hp k (by omega)
    unfold chS at hi ⊢
    by_cases q : (chS p (mmL m) k).2.2.testBit (p k) = true
    · rw [if_pos q] at hi ⊢
      exact ih hi
    · rw [if_neg q] at hi ⊢
      have hi : i < (chS p (mmL m) k).1 + 1 := hi
      have e : plS c (updN (chS p (mmL m) k).2.1 (chS p (mmL m) k).1 (p k)) b m i = plS c (chS p (mmL m) k).2.1 b m i := pl_agree _ (fun y hy => by
        unfold updN
        rw [if_neg (by omega)])
      show wfM c (plS c (updN _ _ _) b m i) ∧ (mmL (plS c (updN _ _ _) b m i)).testBit (updN _ _ _ i) = false
      rw [e]
      by_cases z : i = (chS p (mmL m) k).1
      · subst z
        refine ⟨h1, ?_⟩
        unfold updN
        rw [if_pos rfl]
        cases w : (mmL (plS c (chS p (mmL m) k).2.1 b m (chS p (mmL m) k).1)).testBit (p k) with
        | false => rfl
        | true => exact absurd (h2 _ w) q
      · unfold updN
        rw [if_neg z]
        exact ih (by omega)
theorem plS_S (c : MC) (a : Nat → Nat) (b : Nat → Bool) (m : MM) : ∀ i, mmS (plS c a b m i) = mmS m
  | 0 => rfl
  | i + 1 => by
    unfold plS
    split
    · exact plS_S c a b m i
    · exact plS_S c a b m i
theorem pwalk_loop {cor str lea : Int32} {fi se ho hoM fe able : Nat → Int32} {far : Nat → Nat → Int32} {z1 z2 z3 z4 z5 z6 : Int32} {W : Nat} {a : Nat → Nat} {g : Nat} (hN : 20 ≤ N) (hg6 : g ≤ 6) (hc : wfC c) (hcc : CCity c cor str lea fi se ho hoM fe far) (hW : W < 2 ^ 31) (ha : ∀ i, i < g → a i < mcL c) (hall : ∀ i, i < g → wfM c (plS c a W.testBit m i) ∧ (mmL (plS c a W.testBit m i)).testBit (a i) = false) (hab : holds g a able) : ∀ (j k fu : Nat) (x1 x2 x3 x4 x5 x6 : Int32), k + j = g → j < fu → CMarch (plS c a W.testBit m k) x1 x2 x3 x4 x5 x6 →
    ∃ y1 y2 y3 y4 y5 y6, fX5_walk_b11 N (nI g) able str lea fi se ho hoM fe far z1 z2 z3 z4 z5 z6 (nI W) fu x1 x2 x3 x4 x5 x6 (nI k) = some (y1, y2, y3, y4, y5, y6) ∧ CMarch (plS c a W.testBit m g) y1 y2 y3 y4 y5 y6 := by
  intro j
  induction j with
  | zero =>
    intro k fu x1 x2 x3 x4 x5 x6 h1 h2 h3
    obtain ⟨fu, rfl⟩ : ∃ j, fu = j + 1 := ⟨fu - 1, by omega⟩
    have e : k = g := by omega
    subst e
    rw [fX5_walk_b11, if_pos (nI_le (Nat.le_refl _) (by omega))]
    exact ⟨x1, x2, x3, x4, x5, x6, rfl, h3⟩
  | succ j ih =>
    intro k fu x1 x2 x3 x4 x5 x6 h1 h2 h3
    obtain ⟨fu, rfl⟩ : ∃ j, fu = j + 1 := ⟨fu - 1, by omega⟩
    rw [fX5_walk_b11, if_neg (dj (by omega) (by omega))]
    unfold fX5_walk_b46
    by_cases q : W.testBit k = true
    · obtain ⟨w1, w2⟩ := hall k (by omega)
      obtain ⟨T', g1, g2⟩ := goBy_ok (N := N) (by omega) hc hcc w1 h3 (ha k (by omega))
      rw [if_pos ((bit1 hW (by omega)).mpr q), gi_ok (by omega) (by omega), cl (show k < 2 ^ 31 by omega), hab k (by omega), g2, Option.bind_some, nI_1]
      refine ih (k + 1) fu _ _ _ _ _ _ (by omega) (by omega) ?_
      rw [plS, if_pos q]
      exact ⟨rfl, rfl, rfl, rfl, h3.2.2.2.2.1, T', rfl, g1⟩
    · rw [if_neg (fun z => q ((bit1 hW (by omega)).mp z)), nI_1]
      refine ih (k + 1) fu _ _ _ _ _ _ (by omega) (by omega) ?_
      rw [plS, if_neg q]
      exact h3
end PW
