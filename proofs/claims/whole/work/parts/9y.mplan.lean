section MP
variable {N n : Nat} {c : MC} {m : MM} {p : Nat → Nat} {co st le en ti ho fe far now plan : Nat → Int32}
theorem goPlan_loop {W : Nat} (hN : 20 ≤ N) (hn : n ≤ 6) (hc : wfC c) (hcc : MCity c co st le en ti ho fe far) (hm : wfM c m) (hp : ∀ i, i < n → p i < mcL c) (ht : holds n p plan) (hW : W < 2 ^ 31) : ∀ (j k fu : Nat) (tried : Nat → Int32), k + j = n → j < fu → MMarch (plS c (chS p (mmL m) k).2.1 (fun i => !W.testBit i) m (chS p (mmL m) k).1) tried →
    ∃ tr', fX10_goPlan_b16 N (nI n) st en ti ho fe far now plan (nI W) fu tried (nI (chS p (mmL m) k).1) (nI (chS p (mmL m) k).2.2) (nI k) = some (nI (chS p (mmL m) n).1, tr') ∧ MMarch (plS c (chS p (mmL m) n).2.1 (fun i => !W.testBit i) m (chS p (mmL m) n).1) tr' := by
  intro j
  induction j with
  | zero =>
    intro k fu tried h1 h2 h3
    obtain ⟨fu, rfl⟩ : ∃ j, fu = j + 1 := ⟨fu - 1, by omega⟩
    have e : k = n := by omega
    subst e
    rw [fX10_goPlan_b16, if_pos (nI_le (Nat.le_refl _) (by omega))]
    exact ⟨tried, rfl, h3⟩
  | succ j ih =>
    intro k fu tried h1 h2 h3
    obtain ⟨fu, rfl⟩ : ∃ j, fu = j + 1 := ⟨fu - 1, by omega⟩
    have hk := ch_le p (mmL m) k
    obtain ⟨o1, o2, o3, o4⟩ := pl_ok (b := fun i => !W.testBit i) hc hm hp k (by omega)
    have hu := u_lt hc o3
    have hpk := hp k (by omega)
    have hL := hc.2.2.1
    rw [fX10_goPlan_b16, if_neg (dj (by omega) (by omega)), gi_ok (by omega) (by omega), cl (show k < 2 ^ 31 by omega), ht k (by omega)]
    unfold fX10_goPlan_b69 fX10_goPlan_b72
    by_cases q : (chS p (mmL m) k).2.2.testBit (p k) = true
    · rw [if_neg (fun w => by rw [(bit0 hu (by omega)).mp w] at q; cases q), nI_1]
      have e : chS p (mmL m) (k + 1) = chS p (mmL m) k := by rw [chS, if_pos q]
      rw [← e] at h3 ⊢
      exact ih (k + 1) fu tried (by omega) (by omega) h3
    · have e : chS p (mmL m) (k + 1) = ((chS p (mmL m) k).1 + 1, updN (chS p (mmL m) k).2.1 (chS p (mmL m) k).1 (p k), (chS p (mmL m) k).2.2 ||| 2 ^ (p k)) := by rw [chS, if_neg q]
      have eag : plS c (updN (chS p (mmL m) k).2.1 (chS p (mmL m) k).1 (p k)) (fun i => !W.testBit i) m (chS p (mmL m) k).1 = plS c (chS p (mmL m) k).2.1 (fun i => !W.testBit i) m (chS p (mmL m) k).1 := pl_agree _ (fun i hi => by
        unfold updN
        rw [if_neg (by omega)])
      have ea : updN (chS p (mmL m) k).2.1 (chS p (mmL m) k).1 (p k) (chS p (mmL m) k).1 = p k := by
        unfold updN
        rw [if_pos rfl]
      have ih2 := ih (k + 1) fu
      rw [e] at ih2
      have ih2 : ∀ tried, MMarch (plS c (updN (chS p (mmL m) k).2.1 (chS p (mmL m) k).1 (p k)) (fun i => !W.testBit i) m ((chS p (mmL m) k).1 + 1)) tried → _ := fun tried h => ih2 tried (by omega) (by omega) h
      rw [if_pos ((bit0 hu (by omega)).mpr (by simpa using q)), one_shl (by omega), fa_or, nI_1, nI_1]
      by_cases w : W.testBit (chS p (mmL m) k).1 = true
      · rw [if_neg (fun z => by rw [(bit0 hW (by omega)).mp z] at w; cases w)]
        refine ih2 tried ?_
        rw [plS, if_neg (by rw [w]; decide), eag]
        exact h3
      · have wf : W.testBit (chS p (mmL m) k).1 = false := by simpa using w
        obtain ⟨z, l1, l2, l3⟩ := lead_ok (N := N) (n1 := 17) (by omega) hc hcc o1 h3 hpk (by omega) (by omega)
        rw [if_pos ((bit0 hW (by omega)).mpr wf), l3, Option.bind_some]
        refine ih2 z ?_
        rw [plS, if_pos (by rw [wf]; rfl), eag, ea]
        exact l1
end MP
