/-! the city that was told is taken -/
abbrev TT : Type := Int32 × Int32 × (Nat → Int32) × (Nat → Int32) × (Nat → Int32) × (Nat → Int32) × (Nat → Int32) × (Nat → Int32) × (Nat → Int32) × (Nat → Int32) × (Nat → Int32) × (Nat → Int32)
def newC (d : MC) : MC := (mcC d, mcS d, mcL d, mcA d, mcB d, mcT d, mcH d, mcF d, FC (mcC d) (stS (mcA d) (mcB d) (mcT d) (mcS d)) (mcC d))
def newM : MM := (0, 0, 0, 0, 0, fun _ => 0)
theorem newC_wf {d : MC} (h : wfD d) : wfC (newC d) := ⟨h.1, h.2.1, h.2.2.1, h.2.2.2.1, h.2.2.2.2, fun a b _ _ => FC_le (st_le _) _ a b⟩
theorem newM_wf {c : MC} : wfM c newM := by
  refine ⟨?_, Nat.pow_pos (by omega), Nat.pow_pos (by omega), fun _ => by show 0 ≤ 3; omega, fun _ _ => rfl, Nat.zero_le _, Nat.zero_le _⟩
  by_cases q : mcC c = 0
  · exact Or.inr ⟨q, rfl⟩
  · exact Or.inl (by show 0 < mcC c; omega)
theorem nar0 : vp_nar .boolean (0 : Int32) = 0 := by decide
section TD
variable {N : Nat} {sn pm : Int32} {co st le en ti ho fe far now ik : Nat → Int32} {Q : Option TT → Prop}
theorem td_now : ∀ (j k fu : Nat) (now : Nat → Int32), k + j = 17 → j < fu → (∀ i, i < k → now i = 0) → ∃ now' ik', fX10_takeDraft_b144 N fu sn pm co st en ti le ho fe far now ik (nI k) = some ((0 : Int32), (0 : Int32), co, st, en, ti, le, ho, fe, far, now', ik') ∧ (∀ i, i < 18 → now' i = 0) ∧ ik' 0 = 0 ∧ ik' 1 = 0 := by
  intro j
  induction j with
  | zero =>
    intro k fu now h1 h2 h3
    obtain ⟨fu, rfl⟩ : ∃ j, fu = j + 1 := ⟨fu - 1, by omega⟩
    have e : k = 17 := by omega
    subst e
    rw [fX10_takeDraft_b144, if_pos (show (17 : Int32) ≤ nI 17 by decide), cl17, cl0, cl1, nar0]
    refine ⟨_, _, rfl, fun i hi => ?_, ?_, pk_us⟩
    · by_cases e : i = 17
      · subst e
        exact pk_us
      · rw [pk_un e]
        exact h3 i (by omega)
    · rw [pk_un (by omega)]
      exact pk_us
  | succ j ih =>
    intro k fu now h1 h2 h3
    obtain ⟨fu, rfl⟩ : ∃ j, fu = j + 1 := ⟨fu - 1, by omega⟩
    rw [fX10_takeDraft_b144, if_neg (by rw [show (17 : Int32) = nI 17 from rfl]; exact dj (by omega) (by omega)), gi_ok (by omega) (by omega), cl (show k < 2 ^ 31 by omega), nI_1]
    refine ih (k + 1) fu _ (by omega) (by omega) (fun i hi => ?_)
    by_cases e : i = k
    · subst e
      exact pk_us
    · rw [pk_un e]
      exact h3 i (by omega)
theorem td_lead {ho0 fe0 : Nat → Int32} (hK : ∀ ho fe, (∀ i, i < 6 → ho i = ho0 (6 + i) ∧ fe i = fe0 (6 + i)) → Q ((fX10_measure N st en ti far).bind fun u8 => (fX10_takeDraft_b144 N N sn pm co st en ti le ho fe u8 now ik (0 : Int32)))) : ∀ (j k fu : Nat) (ho fe : Nat → Int32), k + j = 6 → j < fu → (∀ i, i < k → ho i = ho0 (6 + i) ∧ fe i = fe0 (6 + i)) → (∀ i, 6 ≤ i → ho i = ho0 i ∧ fe i = fe0 i) → Q (fX10_takeDraft_b96 N fu sn pm co st en ti le ho fe far now ik (nI k)) := by
  intro j
  induction j with
  | zero =>
    intro k fu ho fe h1 h2 h3 h4
    obtain ⟨fu, rfl⟩ : ∃ j, fu = j + 1 := ⟨fu - 1, by omega⟩
    have e : k = 6 := by omega
    subst e
    rw [fX10_takeDraft_b96, if_pos (show (6 : Int32) ≤ nI 6 by decide)]
    exact hK ho fe h3
  | succ j ih =>
    intro k fu ho fe h1 h2 h3 h4
    obtain ⟨fu, rfl⟩ : ∃ j, fu = j + 1 := ⟨fu - 1, by omega⟩
    rw [fX10_takeDraft_b96, if_neg (by rw [show (6 : Int32) = nI 6 from rfl]; exact dj (by omega) (by omega)), show (6 : Int32) + nI k = nI (6 + k) from nI_add 6 k, gi_ok (by omega) (by omega), gi_ok (by omega) (by omega), gi_ok (by omega) (by omega), gi_ok (by omega) (by omega), cl (show k < 2 ^ 31 by omega), cl (show 6 + k < 2 ^ 31 by omega), nI_1]
    refine ih (k + 1) fu _ _ (by omega) (by omega) (fun i hi => ?_) (fun i hi => ?_)
    · by_cases e : i = k
      · subst e
        rw [pk_us, pk_us]
        exact h4 _ (by omega)
      · rw [pk_un e, pk_un e]
        exact h3 i (by omega)
    · rw [pk_un (by omega), pk_un (by omega)]
      exact h4 i hi
theorem td_time {ti0 : Nat → Int32} (hK : ∀ ti, (∀ i, i < 12 → ti i = ti0 (12 + i)) → Q (fX10_takeDraft_b96 N N sn pm co st en ti le ho fe far now ik (0 : Int32))) : ∀ (j k fu : Nat) (ti : Nat → Int32), k + j = 12 → j < fu → (∀ i, i < k → ti i = ti0 (12 + i)) → (∀ i, 12 ≤ i → ti i = ti0 i) → Q (fX10_takeDraft_b67 N fu sn pm co st en ti le ho fe far now ik (nI k)) := by
  intro j
  induction j with
  | zero =>
    intro k fu ti h1 h2 h3 h4
    obtain ⟨fu, rfl⟩ : ∃ j, fu = j + 1 := ⟨fu - 1, by omega⟩
    have e : k = 12 := by omega
    subst e
    rw [fX10_takeDraft_b67, if_pos (show (12 : Int32) ≤ nI 12 by decide)]
    exact hK ti h3
  | succ j ih =>
    intro k fu ti h1 h2 h3 h4
    obtain ⟨fu, rfl⟩ : ∃ j, fu = j + 1 := ⟨fu - 1, by omega⟩
    rw [fX10_takeDraft_b67, if_neg (by rw [show (12 : Int32) = nI 12 from rfl]; exact dj (by omega) (by omega)), show (12 : Int32) + nI k = nI (12 + k) from nI_add 12 k, gi_ok (by omega) (by omega), gi_ok (by omega) (by omega), cl (show k < 2 ^ 31 by omega), cl (show 12 + k < 2 ^ 31 by omega), nI_1]
    refine ih (k + 1) fu _ (by omega) (by omega) (fun i hi => ?_) (fun i hi => ?_)
    · by_cases e : i = k
      · subst e
        rw [pk_us]
        exact h4 _ (by omega)
      · rw [pk_un e]
        exact h3 i (by omega)
    · rw [pk_un (by omega)]
      exact h4 i hi
theorem td_ends {en0 : Nat → Int32} (hK : ∀ en, (∀ i, i < 24 → en i = en0 (24 + i)) → Q (fX10_takeDraft_b67 N N sn pm co st en ti le ho fe far now ik (0 : Int32))) : ∀ (j k fu : Nat) (en : Nat → Int32), k + j = 24 → j < fu → (∀ i, i < k → en i = en0 (24 + i)) → (∀ i, 24 ≤ i → en i = en0 i) → Q (fX10_takeDraft_b38 N fu sn pm co st en ti le ho fe far now ik (nI k)) := by
  intro j
  induction j with
  | zero =>
    intro k fu en h1 h2 h3 h4
    obtain ⟨fu, rfl⟩ : ∃ j, fu = j + 1 := ⟨fu - 1, by omega⟩
    have e : k = 24 := by omega
    subst e
    rw [fX10_takeDraft_b38, if_pos (show (24 : Int32) ≤ nI 24 by decide)]
    exact hK en h3
  | succ j ih =>
    intro k fu en h1 h2 h3 h4
    obtain ⟨fu, rfl⟩ : ∃ j, fu = j + 1 := ⟨fu - 1, by omega⟩
    rw [fX10_takeDraft_b38, if_neg (by rw [show (24 : Int32) = nI 24 from rfl]; exact dj (by omega) (by omega)), show (24 : Int32) + nI k = nI (24 + k) from nI_add 24 k, gi_ok (by omega) (by omega), gi_ok (by omega) (by omega), cl (show k < 2 ^ 31 by omega), cl (show 24 + k < 2 ^ 31 by omega), nI_1]
    refine ih (k + 1) fu _ (by omega) (by omega) (fun i hi => ?_) (fun i hi => ?_)
    · by_cases e : i = k
      · subst e
        rw [pk_us]
        exact h4 _ (by omega)
      · rw [pk_un e]
        exact h3 i (by omega)
    · rw [pk_un (by omega)]
      exact h4 i hi
theorem takeDraft_ok {d : MC} (hN : 1000 ≤ N) (hw : wfD d) (hmd : MD d co st le en ti ho fe) : ∃ co' st' en' ti' le' ho' fe' far' now' ik', fX10_takeDraft N sn pm co st en ti le ho fe far now ik = some ((0 : Int32), (0 : Int32), co', st', en', ti', le', ho', fe', far', now', ik') ∧ MCity (newC d) co' st' le' en' ti' ho' fe' far' ∧ (∀ i, i < 18 → now' i = 0) ∧ ik' 0 = 0 ∧ ik' 1 = 0 := by
  obtain ⟨d1, d2, d3, d4, d5⟩ := hmd
  obtain ⟨w1, w2, w3, w4, w5⟩ := hw
  unfold fX10_takeDraft
  rw [cl0, cl1, d1, d2, d3]
  refine td_ends (Q := fun o => ∃ co' st' en' ti' le' ho' fe' far' now' ik', o = some ((0 : Int32), (0 : Int32), co', st', en', ti', le', ho', fe', far', now', ik') ∧ MCity (newC d) co' st' le' en' ti' ho' fe' far' ∧ (∀ i, i < 18 → now' i = 0) ∧ ik' 0 = 0 ∧ ik' 1 = 0) (en0 := en) (fun en1 he1 => ?_) 24 0 N en (by omega) (by omega) (fun i hi => absurd hi (by omega)) (fun i hi => rfl)
  refine td_time (Q := fun o => ∃ co' st' en' ti' le' ho' fe' far' now' ik', o = some ((0 : Int32), (0 : Int32), co', st', en', ti', le', ho', fe', far', now', ik') ∧ MCity (newC d) co' st' le' en' ti' ho' fe' far' ∧ (∀ i, i < 18 → now' i = 0) ∧ ik' 0 = 0 ∧ ik' 1 = 0) (ti0 := ti) (fun ti1 ht1 => ?_) 12 0 N ti (by omega) (by omega) (fun i hi => absurd hi (by omega)) (fun i hi => rfl)
  refine td_lead (Q := fun o => ∃ co' st' en' ti' le' ho' fe' far' now' ik', o = some ((0 : Int32), (0 : Int32), co', st', en', ti', le', ho', fe', far', now', ik') ∧ MCity (newC d) co' st' le' en' ti' ho' fe' far' ∧ (∀ i, i < 18 → now' i = 0) ∧ ik' 0 = 0 ∧ ik' 1 = 0) (ho0 := ho) (fe0 := fe) (fun ho1 fe1 hl1 => ?_) 6 0 N ho fe (by omega) (by omega) (fun i hi => absurd hi (by omega)) (fun i hi => ⟨rfl, rfl⟩)
  have hs : ∀ i, i < mcS d → en1 (2 * i) = nI (mcA d i) ∧ en1 (2 * i + 1) = nI (mcB d i) ∧ ti1 i = nI (mcT d i) := fun i hi => by
    obtain ⟨s1, s2, s3⟩ := d4 i hi
    refine ⟨?_, ?_, ?_⟩
    · rw [he1 _ (by omega)]
      exact s1
    · rw [he1 _ (by omega), show 24 + (2 * i + 1) = 25 + 2 * i by omega]
      exact s2
    · rw [ht1 i (by omega)]
      exact s3
  obtain ⟨g, m1, m2⟩ := measure_m (N := N) (st := upd st 0 (nI (mcS d))) (en := en1) (ti := ti1) (S := mcS d) (A := mcA d) (B := mcB d) (T := mcT d) (by omega) w2 pk_us hs (fun i hi => by have := w4 i hi; omega) far
  obtain ⟨now', ik', n1, n2, n3, n4⟩ := td_now (N := N) (sn := sn) (pm := pm) (co := upd co 0 (nI (mcC d))) (st := upd st 0 (nI (mcS d))) (en := en1) (ti := ti1) (le := upd le 0 (nI (mcL d))) (ho := ho1) (fe := fe1) (far := g) (ik := ik) 17 0 N now (by omega) (by omega) (fun i hi => absurd hi (by omega))
  have n1 : fX10_takeDraft_b144 N N sn pm (upd co 0 (nI (mcC d))) (upd st 0 (nI (mcS d))) en1 ti1 (upd le 0 (nI (mcL d))) ho1 fe1 g now ik (0 : Int32) = _ := n1
  rw [m1, Option.bind_some, n1]
  refine ⟨_, _, _, _, _, _, _, _, _, _, rfl, ⟨pk_us, pk_us, pk_us, hs, fun i hi => ?_, fun a b ha hb => ?_⟩, n2, n3, n4⟩
  · have hi : i < mcL d := hi
    obtain ⟨s1, s2⟩ := d5 i hi
    obtain ⟨h1, h2⟩ := hl1 i (by omega)
    exact ⟨h1.trans s1, h2.trans s2⟩
  · have ha : a < mcC d := ha
    have hb : b < mcC d := hb
    rw [m2 a b (by omega) (by omega)]
    exact nI_cong (FCM w1 (st_le _) (st_sep _ (fun i hi => by have := w4 i hi; omega)) a b ha hb).symm
end TD
theorem neg10 : ∀ s, s < 151 → ¬ (0 : Int32) ≤ (-10 : Int32) - nI s := by decide +kernel
theorem MCity_mkp {c : MC} {co st le en ti ho fe far co' st' le' en' ti' ho' fe' : Nat → Int32} (hc : wfC c) (h : MCity c co st le en ti ho fe far) (g : mkp co st le en ti ho fe co' st' le' en' ti' ho' fe') : MCity c co' st' le' en' ti' ho' fe' far := by
  obtain ⟨h1, h2, h3, h4, h5, h6⟩ := h
  obtain ⟨g1, g2, g3, g4, g5, g6⟩ := g
  have hS := hc.2.1
  have hL := hc.2.2.1
  refine ⟨g1.trans h1, g2.trans h2, g3.trans h3, fun i hi => ?_, fun i hi => ?_, h6⟩
  · obtain ⟨a1, a2, a3⟩ := h4 i hi
    exact ⟨(g4 _ (by omega)).trans a1, (g4 _ (by omega)).trans a2, (g5 _ (by omega)).trans a3⟩
  · obtain ⟨a1, a2⟩ := h5 i hi
    exact ⟨(g6 _ (by omega)).1.trans a1, (g6 _ (by omega)).2.trans a2⟩
