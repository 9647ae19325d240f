/-! the model's best ROW and its longest one -/
def mbrep (n : Nat) (b : RB) (val : Int32) (best : Nat → Int32) : Prop := match b with
  | none => val = (-9 : Int32)
  | some v => val = nI (wgt v.1 v.2.1 v.2.2.1) ∧ v.1 ≤ 1 ∧ v.2.1 ≤ 6 ∧ v.2.2.1 ≤ 270 ∧ holds n v.2.2.2 best
section FO
variable {N n : Nat} {c : MC} {m : MM} {co st le en ti ho fe far now : Nat → Int32}
theorem mdoor_ok {e : MM} {p : Nat → Int32} (hc : wfC c) (hco : co 0 = nI (mcC c)) (hp : MMarch e p) (he : mmA e < 8) : fX10_isAtDoor N co p = some (bI (atDoor c e)) := by
  unfold fX10_isAtDoor atDoor
  have := hc.1
  rw [cl0, hco, hp.1]
  by_cases q : mcC c = 0
  · rw [q, if_pos (by decide)]
    simp [bI]
  · rw [if_neg (nI_nle (by omega) (by omega))]
    by_cases q2 : mmA e = 0
    · rw [q2, if_pos (by decide)]
      simp [bI, show 0 < mcC c by omega]
    · rw [if_neg (nI_ne0 (by omega) (by omega))]
      simp [bI, q2]
theorem fcopy {K12 : Int32 → Int32 → Int32 → (Nat → Int32) → (Nat → Int32) → (Nat → Int32) → (Nat → Int32) → (Nat → Int32) → Int32 → Option (Int32 × Int32 × Int32 × (Nat → Int32) × (Nat → Int32) × (Nat → Int32) × (Nat → Int32) × (Nat → Int32))} {hs val : Int32} {tried row who then' : Nat → Int32} {t : Nat → Nat} (hn : n ≤ 6) (ht : holds n t row) : ∀ (j k fu : Nat) (best : Nat → Int32), k + j = n → j < fu → holds k t best → ∃ best', fX10_findOrder_b90 N co st en ti le ho fe far now K12 fu (nI n) hs val tried row who then' best (nI k) = fX10_findOrder_b116 N co st en ti le ho fe far now K12 (nI n) hs val tried row who then' best' ∧ holds n t best' := by
  intro j
  induction j with
  | zero =>
    intro k fu best h1 h2 h3
    obtain ⟨fu, rfl⟩ : ∃ j, fu = j + 1 := ⟨fu - 1, by omega⟩
    have e : k = n := by omega
    subst e
    rw [fX10_findOrder_b90, if_pos (nI_le (Nat.le_refl _) (by omega))]
    exact ⟨best, rfl, h3⟩
  | succ j ih =>
    intro k fu best h1 h2 h3
    obtain ⟨fu, rfl⟩ : ∃ j, fu = j + 1 := ⟨fu - 1, by omega⟩
    rw [fX10_findOrder_b90, if_neg (dj (by omega) (by omega)), gi_ok (by omega) (by omega), gi_ok (by omega) (by omega), cl (by omega), nI_1, ht k (by omega)]
    refine ih (k + 1) fu _ (by omega) (by omega) (fun i hi => ?_)
    by_cases e : i = k
    · subst e
      rw [pk_us]
    · rw [pk_un e]
      exact h3 i (by omega)
theorem forder_loop (hN : 1000 ≤ N) (hn : n ≤ 6) (hc : wfC c) (hcc : MCity c co st le en ti ho fe far) (hm : wfM c m) (hmm : MMarch m now) : ∀ (k fu : Nat) (t : Nat → Nat) (b : RB) (homes val : Int32) (tried row who then' best : Nat → Int32), k + 1 < fu → ends n k t = true → (∀ x, t x < 2 ^ 31) → good c n 0 t m → holds n t row → mbrep n b val best →
    ∃ (ho' val' : Int32) (tr' rw' wh' th' be' : Nat → Int32), fX10_findOrder_b12 N co st en ti le ho fe far now fu (nI n) homes val tried row who then' best (1 : Int32) = some (nI n, ho', val', tr', rw', wh', th', be') ∧ mbrep n ((rowsL n k t).foldl (b1 c n m) b) val' be' := by
  intro k
  induction k with
  | zero => intro fu t b homes val tried row who then' best h1 h3; simp [ends] at h3
  | succ k ih =>
    intro fu t b homes val tried row who then' best h1 h3 ht31 hg hto hb
    obtain ⟨fu, rfl⟩ : ∃ j, fu = j + 1 := ⟨fu - 1, by omega⟩
    obtain ⟨r1, r2, r3, r4, r5, r6, r7, r8, r9⟩ := rr_ok hn hc hm hg
    obtain ⟨tr', wh', th', w1, w2, w3, w4⟩ := run_ok (N := N) (x := homes) (tried := tried) (who := who) (then' := then') (by omega) hn hc hcc hm hg hmm hto
    have w2 : MMarch (rr c n m t).2.1 tr' := w2
    obtain ⟨rn, bn, n1, n2⟩ := next_m (N := N) (by omega) hn ht31 hto
    -- behind the choice
    have b116 : ∀ (val' : Int32) (best' : Nat → Int32), mbrep n (b1 c n m b t) val' best' → ∃ (ho' val'' : Int32) (tr'' rw' wh'' th'' be' : Nat → Int32), fX10_findOrder_b116 N co st en ti le ho fe far now (fun t_rowLong t_homes t_bestValue t_tried t_row t_who t_then t_best x1 => fX10_findOrder_b12 N co st en ti le ho fe far now fu t_rowLong t_homes t_bestValue t_tried t_row t_who t_then t_best x1) (nI n) (nI (rr c n m t).2.2.2) val' tr' row wh' th' best' = some (nI n, ho', val'', tr'', rw', wh'', th'', be') ∧ mbrep n ((rowsL n (k + 1) t).foldl (b1 c n m) b) val'' be' := by
      intro val' best' hb'
      unfold fX10_findOrder_b116
      rw [n1, Option.bind_some]
      unfold ends at h3
      rcases n2 with ⟨e1, rfl, rfl⟩ | ⟨t', e1, rfl, hto'⟩
      · have er : rowsL n (k + 1) t = [t] := by unfold rowsL; rw [e1]
        rw [er]
        obtain ⟨fu, rfl⟩ : ∃ j, fu = j + 1 := ⟨fu - 1, by omega⟩
        dsimp only
        rw [fX10_findOrder_b12, if_pos rfl]
        exact ⟨_, _, _, _, _, _, _, rfl, hb'⟩
      · rw [e1] at h3
        have er : rowsL n (k + 1) t = t :: rowsL n k t' := by rw [rowsL, e1]
        rw [er]
        exact ih fu t' _ _ _ _ _ _ _ _ (by omega) h3 (nx_lt e1 ht31) (nx_good e1 hg) hto' hb'
    have b33 : ∀ (d : Nat) (y0 : Int32), (if atDoor c (rr c n m t).2.1 = true then 0 else 1) = d → y0 = nI (10000000 * d) → ∃ (ho' val'' : Int32) (tr'' rw' wh'' th'' be' : Nat → Int32), fX10_findOrder_b33 N co st en ti le ho fe far now (fun t_rowLong t_homes t_bestValue t_tried t_row t_who t_then t_best x1 => fX10_findOrder_b12 N co st en ti le ho fe far now fu t_rowLong t_homes t_bestValue t_tried t_row t_who t_then t_best x1) (nI n) (nI (rr c n m t).2.2.2) val tr' row wh' th' best y0 = some (nI n, ho', val'', tr'', rw', wh'', th'', be') ∧ mbrep n ((rowsL n (k + 1) t).foldl (b1 c n m) b) val'' be' := by
      intro d y0 hd hy
      subst hy
      have hd1 : d ≤ 1 := by rw [← hd]; split <;> omega
      have ev : ((nI (10000000 * d) + ((10000 : Int32) * ((tr' (2 : Int32).toNatClampNeg) - (now (2 : Int32).toNatClampNeg)))) + (tr' (1 : Int32).toNatClampNeg)) - (now (1 : Int32).toNatClampNeg) = nI (wgt d (mmF (rr c n m t).2.1 - mmF m) (mmH (rr c n m t).2.1 - mmH m)) := by
        rw [cl2, cl1, w2.2.1, w2.2.2.1, hmm.2.1, hmm.2.2.1, pk_sub r4, show (10000 : Int32) = nI 10000 from rfl, pk_mul, nI_add, nI_add, pk_sub (by omega)]
        refine nI_cong ?_
        unfold wgt
        omega
      have hw : wgt d (mmF (rr c n m t).2.1 - mmF m) (mmH (rr c n m t).2.1 - mmH m) < 2 ^ 31 := by
        unfold wgt
        omega
      have new : ∃ (ho' val'' : Int32) (tr'' rw' wh'' th'' be' : Nat → Int32), b1 c n m b t = some (d, mmF (rr c n m t).2.1 - mmF m, mmH (rr c n m t).2.1 - mmH m, t) → fX10_findOrder_b83 N co st en ti le ho fe far now (fun t_rowLong t_homes t_bestValue t_tried t_row t_who t_then t_best x1 => fX10_findOrder_b12 N co st en ti le ho fe far now fu t_rowLong t_homes t_bestValue t_tried t_row t_who t_then t_best x1) (nI n) (nI (rr c n m t).2.2.2) val tr' row wh' th' best (nI (wgt d (mmF (rr c n m t).2.1 - mmF m) (mmH (rr c n m t).2.1 - mmH m))) = some (nI n, ho', val'', tr'', rw', wh'', th'', be') ∧ mbrep n ((rowsL n (k + 1) t).foldl (b1 c n m) b) val'' be' := by
        by_cases e : b1 c n m b t = some (d, mmF (rr c n m t).2.1 - mmF m, mmH (rr c n m t).2.1 - mmH m, t)
        · unfold fX10_findOrder_b83
          obtain ⟨best', g1, g2⟩ := fcopy (N := N) (co := co) (st := st) (en := en) (ti := ti) (le := le) (ho := ho) (fe := fe) (far := far) (now := now) (K12 := fun t_rowLong t_homes t_bestValue t_tried t_row t_who t_then t_best x1 => fX10_findOrder_b12 N co st en ti le ho fe far now fu t_rowLong t_homes t_bestValue t_tried t_row t_who t_then t_best x1) (hs := nI (rr c n m t).2.2.2) (val := nI (wgt d (mmF (rr c n m t).2.1 - mmF m) (mmH (rr c n m t).2.1 - mmH m))) (tried := tr') (who := wh') (then' := th') hn hto n 0 N best (by omega) (by omega) (fun i hi => absurd hi (by omega))
          obtain ⟨a1, a2, a3, a4, a5, a6, a7, a8, a9⟩ := b116 (nI (wgt d (mmF (rr c n m t).2.1 - mmF m) (mmH (rr c n m t).2.1 - mmH m))) best' (by rw [e]; exact ⟨rfl, hd1, (show mmF (rr c n m t).2.1 - mmF m ≤ 6 by omega), (show mmH (rr c n m t).2.1 - mmH m ≤ 270 by omega), g2⟩)
          refine ⟨a1, a2, a3, a4, a5, a6, a7, fun _ => ⟨?_, a9⟩⟩
          rw [show (0 : Int32) = nI 0 from rfl, g1]
          exact a8
        · exact ⟨0, 0, tr', tr', tr', tr', tr', fun z => absurd z e⟩
      obtain ⟨a1, a2, a3, a4, a5, a6, a7, a8⟩ := new
      unfold fX10_findOrder_b33
      rw [ev]
      cases b with
      | none =>
        have hb : val = (-9 : Int32) := hb
        rw [if_pos hb]
        exact ⟨a1, a2, a3, a4, a5, a6, a7, a8 (by unfold b1; rw [hd]; rfl)⟩
      | some v =>
        obtain ⟨d0, f0, h0, s⟩ := v
        obtain ⟨v1, v2, v3, v4, v5⟩ := hb
        have v1 : val = nI (wgt d0 f0 h0) := v1
        have v2 : d0 ≤ 1 := v2
        have v3 : f0 ≤ 6 := v3
        have v4 : h0 ≤ 270 := v4
        have hw0 : wgt d0 f0 h0 < 2 ^ 31 := by unfold wgt; omega
        rw [if_neg (by rw [v1]; exact nI_n9 hw0)]
        by_cases q : wgt d (mmF (rr c n m t).2.1 - mmF m) (mmH (rr c n m t).2.1 - mmH m) < wgt d0 f0 h0
        · rw [if_neg (by rw [v1]; exact nI_ge q hw0)]
          exact ⟨a1, a2, a3, a4, a5, a6, a7, a8 (by unfold b1; rw [hd]; exact if_pos q)⟩
        · rw [if_pos (by rw [v1]; exact nI_le (by omega) hw)]
          refine b116 val best ?_
          have e : b1 c n m (some (d0, f0, h0, s)) t = some (d0, f0, h0, s) := by unfold b1; rw [hd]; exact if_neg q
          rw [e]
          exact ⟨v1, v2, v3, v4, v5⟩
    rw [fX10_findOrder_b12, if_neg (by decide), w1, Option.bind_some]
    dsimp only
    rw [mdoor_ok (N := N) hc hcc.1 w2 r2, Option.bind_some]
    cases hd : atDoor c (rr c n m t).2.1 with
    | false =>
      rw [if_pos (show bI false = 0 from rfl)]
      exact b33 1 _ (by rw [hd]; rfl) rfl
    | true =>
      rw [if_neg (show ¬ bI true = 0 by decide)]
      exact b33 0 _ (by rw [hd]; rfl) rfl
end FO
