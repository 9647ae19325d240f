/-! both go by the plan alike -/
section PL
variable {N n : Nat} {c : MC} {m : MM} {p : Nat → Nat}
theorem u_lt (hc : wfC c) {u : Nat} (h : u < 2 ^ mcL c) : u < 2 ^ 31 := by
  have : 2 ^ mcL c ≤ 2 ^ 6 := Nat.pow_le_pow_right (by omega) hc.2.2.1
  omega
theorem choose_loop {told : Nat → Int32} {z : Int32} (hN : 20 ≤ N) (hn : n ≤ 6) (hc : wfC c) (hm : wfM c m) (hp : ∀ i, i < n → p i < mcL c) (ht : holds n p told) : ∀ (j k fu : Nat) (able : Nat → Int32), k + j = n → j < fu → holds (chS p (mmL m) k).1 (chS p (mmL m) k).2.1 able → ∃ b, fX5_choose_b12 N (nI n) told z fu (nI (chS p (mmL m) k).1) able (nI (chS p (mmL m) k).2.2) (nI k) = some (nI (chS p (mmL m) n).1, b) ∧ holds (chS p (mmL m) n).1 (chS p (mmL m) n).2.1 b := by
  intro j
  induction j with
  | zero =>
    intro k fu able h1 h2 h3
    obtain ⟨fu, rfl⟩ : ∃ j, fu = j + 1 := ⟨fu - 1, by omega⟩
    have e : k = n := by omega
    subst e
    rw [fX5_choose_b12, if_pos (nI_le (Nat.le_refl _) (by omega))]
    exact ⟨able, rfl, h3⟩
  | succ j ih =>
    intro k fu able h1 h2 h3
    obtain ⟨fu, rfl⟩ : ∃ j, fu = j + 1 := ⟨fu - 1, by omega⟩
    have hk := ch_le p (mmL m) k
    have hu := u_lt hc (pl_ok (b := fun _ => false) hc hm hp k (by omega)).2.2.1
    have hpk := hp k (by omega)
    have hL := hc.2.2.1
    rw [fX5_choose_b12, if_neg (dj (by omega) (by omega)), gi_ok (by omega) (by omega), cl (show k < 2 ^ 31 by omega), ht k (by omega)]
    unfold fX5_choose_b69
    by_cases q : (chS p (mmL m) k).2.2.testBit (p k) = true
    · rw [if_neg (fun w => by rw [(bit0 hu (by omega)).mp w] at q; cases q), nI_1]
      have e : chS p (mmL m) (k + 1) = chS p (mmL m) k := by rw [chS, if_pos q]
      rw [← e] at h3 ⊢
      exact ih (k + 1) fu able (by omega) (by omega) h3
    · rw [if_pos ((bit0 hu (by omega)).mpr (by simpa using q)), gi_ok (by omega) (by omega), gi_ok (by omega) (by omega), gi_ok (by omega) (by omega), cl (by omega), nI_1, nI_1, one_shl (by omega), fa_or]
      have e : chS p (mmL m) (k + 1) = ((chS p (mmL m) k).1 + 1, updN (chS p (mmL m) k).2.1 (chS p (mmL m) k).1 (p k), (chS p (mmL m) k).2.2 ||| 2 ^ (p k)) := by rw [chS, if_neg q]
      have h4 : holds (chS p (mmL m) (k + 1)).1 (chS p (mmL m) (k + 1)).2.1 (upd able (chS p (mmL m) k).1 (nI (p k))) := by
        rw [e]
        exact holds_upd (n := n) h3
      obtain ⟨b, g1, g2⟩ := ih (k + 1) fu _ (by omega) (by omega) h4
      rw [e] at g1
      exact ⟨b, g1, g2⟩
theorem choose_ok {told able : Nat → Int32} {z : Int32} (hN : 20 ≤ N) (hn : n ≤ 6) (hc : wfC c) (hm : wfM c m) (hp : ∀ i, i < n → p i < mcL c) (ht : holds n p told) : ∃ b, fX5_choose N (nI n) z told able (nI (mmL m)) = some (nI (chS p (mmL m) n).1, b) ∧ holds (chS p (mmL m) n).1 (chS p (mmL m) n).2.1 b :=
  choose_loop hN hn hc hm hp ht n 0 N able (by omega) (by omega) (fun i hi => absurd hi (by show ¬ i < 0; omega))
end PL
