/-! the way that is gone next, in the class -/
theorem wayFrom_ok {N : Nat} {c : MC} {fi se : Nat → Int32} {s at' : Nat} (hs : s < 12) (hf : fi s = nI (mcA c s)) (hse : se s = nI (mcB c s)) (hA : mcA c s < 8) (hB : mcB c s < 8) (ha : at' < 8) :
    fX0_wayFrom N fi se (nI s) (nI at') = some (if mcA c s = at' then nI s else if mcB c s = at' then nI (s + 12) else (-9 : Int32)) := by
  unfold fX0_wayFrom
  rw [gi_ok hs (by omega), gi_ok hs (by omega), cl (by omega), hf, hse, show (12 : Int32) = nI 12 from rfl, nI_add]
  by_cases h1 : mcA c s = at'
  · rw [if_pos (by rw [h1]), if_pos h1]
  · rw [if_neg (fun e => h1 ((nI_eq (by omega) (by omega)).mp e)), if_neg h1]
    by_cases h2 : mcB c s = at'
    · rw [if_pos (by rw [h2]), if_pos h2]
    · rw [if_neg (fun e => h2 ((nI_eq (by omega) (by omega)).mp e)), if_neg h2]
theorem otherEnd_ok {N : Nat} {c : MC} {fi se : Nat → Int32} {s f : Nat} (hs : s < 12) (hfl : f ≤ 1) (hf : fi s = nI (mcA c s)) (hse : se s = nI (mcB c s)) :
    fX0_otherEnd N fi se (nI (s + 12 * f)) = some (nI (oth c (s, f))) := by
  unfold fX0_otherEnd oth
  rcases (show f = 0 ∨ f = 1 by omega) with rfl | rfl
  · rw [if_neg (by rw [show (12 : Int32) = nI 12 from rfl]; exact dj (by omega) (by omega)), Nat.mul_zero, Nat.add_zero, gi_ok hs (by omega), cl (by omega), hse]
    simp
  · rw [if_pos (by rw [show (12 : Int32) = nI 12 from rfl]; exact nI_le (by omega) (by omega)), show (12 : Int32) = nI 12 from rfl, pk_sub (by omega), show s + 12 * 1 - 12 = s by omega, gi_ok hs (by omega), cl (by omega), hf]
    simp
theorem hoursOf_ok {N : Nat} {c : MC} {ho : Nat → Int32} {s f : Nat} (hs : s < 12) (hfl : f ≤ 1) (hh : ho s = nI (mcT c s)) : fX0_hoursOf N ho (nI (s + 12 * f)) = some (nI (mcT c s)) := by
  unfold fX0_hoursOf
  have e : nI (s + 12 * f) - nI (s + 12 * f) / (12 : Int32) * (12 : Int32) = nI s := by
    rw [show (12 : Int32) = nI 12 from rfl, pk_rem (by omega) (by omega) (by omega)]
    exact nI_cong (by omega)
  rw [e, gi_ok hs (by omega), cl (by omega), hh]
/-- what is barred: taken, or shut -/
def barS (m : MM) (s f : Nat) : Bool := (mmS m).testBit s || (mmK m s).testBit f
def barN (T S : Nat) : Nat := (T ||| S) ||| (S * 2 ^ 12)
theorem bar_lt {T S : Nat} (hT : T < 2 ^ 24) (hS : S < 2 ^ 12) : barN T S < 2 ^ 24 := by
  unfold barN
  exact or_lt (or_lt hT (Nat.lt_of_lt_of_le hS (by decide))) (by rw [show (2 : Nat) ^ 24 = 2 ^ 12 * 2 ^ 12 by decide]; exact Nat.mul_lt_mul_of_pos_right hS (by decide))
theorem bar_bit {m : MM} {T : Nat} (h : tkn (mmK m) T) (hS : mmS m < 2 ^ 12) {s f : Nat} (hs : s < 12) (hf : f ≤ 1) : (barN T (mmS m)).testBit (s + 12 * f) = barS m s f := by
  unfold barN barS
  have h2 := h.2 s hs
  rcases (show f = 0 ∨ f = 1 by omega) with rfl | rfl
  · rw [Nat.mul_zero, Nat.add_zero, Nat.testBit_or, Nat.testBit_or, Nat.testBit_mul_two_pow, h2.1]
    simp [show ¬ 12 ≤ s by omega, Bool.or_comm]
  · rw [Nat.mul_one, Nat.testBit_or, Nat.testBit_or, Nat.testBit_mul_two_pow, h2.2, tb_lt hS (show 12 ≤ s + 12 by omega)]
    simp [Bool.or_comm]
theorem bar_nI {T S : Nat} (hT : T < 2 ^ 24) (hS : S < 2 ^ 12) : (nI T ||| nI S) ||| (nI S <<< ((12 : Int32) &&& 31)) = nI (barN T S) := by
  rw [show (12 : Int32) = nI 12 from rfl, shl_nI (by omega) (by have : S * 2 ^ 12 < 2 ^ 12 * 2 ^ 12 := Nat.mul_lt_mul_of_pos_right hS (by decide); omega), fa_or, fa_or]
  rfl
/-- the best way so far, as the loop holds it -/
def wenc (w : Option (Nat × Nat)) : Int32 := match w with
  | none => (-9 : Int32)
  | some w => nI (w.1 + 12 * w.2)
def wrep (c : MC) (home : Nat) (w : Option (Nat × Nat)) (x4 x5 x6 : Int32) : Prop := x4 = wenc w ∧ ∀ v, w = some v → x5 = nI (mcD c (oth c v) home) ∧ x6 = nI (mcT c v.1)
section WW
variable {N : Nat} {c : MC} {m : MM} {str : Int32} {fi se ho : Nat → Int32} {far : Nat → Nat → Int32} {home B : Nat}
theorem oth_lt (hc : wfC c) {w : Nat × Nat} (h : w.1 < mcS c) : oth c w < mcC c := by
  have := hc.2.2.2.1 w.1 h
  unfold oth
  split
  · exact this.2.1
  · exact this.1
theorem wanted_loop (hc : wfC c) (hstr : str = nI (mcS c)) (hst : ∀ i, i < mcS c → fi i = nI (mcA c i) ∧ se i = nI (mcB c i) ∧ ho i = nI (mcT c i)) (hfar : ∀ a b, a < mcC c → b < mcC c → far a b = nI (mcD c a b)) (hh : home < mcC c) (ha : mmA m < mcC c) (hB : B < 2 ^ 24) (hb : ∀ s f, s < 12 → f ≤ 1 → B.testBit (s + 12 * f) = barS m s f) :
    ∀ (n k : Nat) (x4 x5 x6 : Int32), k ≤ mcS c → mcS c < k + n → wrep c home (wayS c m home k) x4 x5 x6 → fX0_wantedWay_b13 N str fi se ho far (nI (mmA m)) (nI home) (nI B) n x4 x5 x6 (nI k) = some (wenc (wayS c m home (mcS c)))
  | 0, k, x4, x5, x6, h1, h2, _ => absurd h2 (by omega)
  | n + 1, k, x4, x5, x6, h1, h2, hw => by
    have hS := hc.2.1
    have hC := hc.1
    unfold fX0_wantedWay_b13
    by_cases hk : k < mcS c
    · rw [if_neg (by rw [hstr]; exact dj hk (by omega))]
      obtain ⟨w1, w2, w3, w4, w5⟩ := hc.2.2.2.1 k hk
      obtain ⟨g1, g2, g3⟩ := hst k hk
      rw [wayFrom_ok (by omega) g1 g2 (by omega) (by omega) (by omega), Option.bind_some]
      have hnx : ∀ x4 x5 x6 : Int32, wrep c home (wayS c m home (k + 1)) x4 x5 x6 → fX0_wantedWay_b13 N str fi se ho far (nI (mmA m)) (nI home) (nI B) n x4 x5 x6 (nI k + 1) = some (wenc (wayS c m home (mcS c))) := fun x4 x5 x6 hw => by
        rw [nI_1]
        exact wanted_loop hc hstr hst hfar hh ha hB hb n (k + 1) x4 x5 x6 hk (by omega) hw
      have keep : cand c m k = none → wrep c home (wayS c m home (k + 1)) x4 x5 x6 := fun e => by
        unfold wayS
        rw [e]
        exact hw
      -- a way that may be gone, by its end f
      have may : ∀ f : Nat, f ≤ 1 → cand c m k = some f → (if ((nI B >>> (nI (k + 12 * f) &&& 31)) &&& (1 : Int32)) = (1 : Int32) then (fX0_wantedWay_b116 N str fi se ho far (nI (mmA m)) (nI home) (nI B) (fun x4 x5 x6 x7 => fX0_wantedWay_b13 N str fi se ho far (nI (mmA m)) (nI home) (nI B) n x4 x5 x6 x7) x4 x5 x6 (nI k)) else ((fX0_otherEnd N fi se (nI (k + 12 * f))).bind fun u5 => gi u5 8 (gi (nI home) 8 ((if x4 = (-9 : Int32) then (fX0_wantedWay_b99 N str fi se ho far (nI (mmA m)) (nI home) (nI B) (fun x4 x5 x6 x7 => fX0_wantedWay_b13 N str fi se ho far (nI (mmA m)) (nI home) (nI B) n x4 x5 x6 x7) (nI k) (nI (k + 12 * f)) (far u5.toNatClampNeg (nI home).toNatClampNeg)) else (if (far u5.toNatClampNeg (nI home).toNatClampNeg) < x5 then (fX0_wantedWay_b99 N str fi se ho far (nI (mmA m)) (nI home) (nI B) (fun x4 x5 x6 x7 => fX0_wantedWay_b13 N str fi se ho far (nI (mmA m)) (nI home) (nI B) n x4 x5 x6 x7) (nI k) (nI (k + 12 * f)) (far u5.toNatClampNeg (nI home).toNatClampNeg)) else (if (far u5.toNatClampNeg (nI home).toNatClampNeg) = x5 then gi (nI k) 12 ((if x6 ≤ (ho (nI k).toNatClampNeg) then (fX0_wantedWay_b116 N str fi se ho far (nI (mmA m)) (nI home) (nI B) (fun x4 x5 x6 x7 => fX0_wantedWay_b13 N str fi se ho far (nI (mmA m)) (nI home) (nI B) n x4 x5 x6 x7) x4 x5 x6 (nI k)) else (fX0_wantedWay_b99 N str fi se ho far (nI (mmA m)) (nI home) (nI B) (fun x4 x5 x6 x7 => fX0_wantedWay_b13 N str fi se ho far (nI (mmA m)) (nI home) (nI B) n x4 x5 x6 x7) (nI k) (nI (k + 12 * f)) (far u5.toNatClampNeg (nI home).toNatClampNeg)))) else (fX0_wantedWay_b116 N str fi se ho far (nI (mmA m)) (nI home) (nI B) (fun x4 x5 x6 x7 => fX0_wantedWay_b13 N str fi se ho far (nI (mmA m)) (nI home) (nI B) n x4 x5 x6 x7) x4 x5 x6 (nI k))))))))) = some (wenc (wayS c m home (mcS c))) := by
        intro f hf hcd
        obtain ⟨-, -, -, c1, c2⟩ := cand_lt hcd
        rw [if_neg (by rw [bit1 (by omega) (by omega), hb k f (by omega) hf]; unfold barS; rw [c1, c2]; decide), otherEnd_ok (by omega) hf g1 g2, Option.bind_some]
        have hol : oth c (k, f) < mcC c := oth_lt hc hk
        rw [gi_ok (by omega) (by omega), gi_ok (by omega) (by omega), cl (by omega), cl (by omega), hfar _ _ hol hh]
        have b99 : wayS c m home (k + 1) = some (k, f) → fX0_wantedWay_b99 N str fi se ho far (nI (mmA m)) (nI home) (nI B) (fun x4 x5 x6 x7 => fX0_wantedWay_b13 N str fi se ho far (nI (mmA m)) (nI home) (nI B) n x4 x5 x6 x7) (nI k) (nI (k + 12 * f)) (nI (mcD c (oth c (k, f)) home)) = some (wenc (wayS c m home (mcS c))) := fun e => by
          unfold fX0_wantedWay_b99 fX0_wantedWay_b116
          rw [gi_ok (by omega) (by omega), cl (by omega), g3]
          exact hnx _ _ _ ⟨by rw [e]; rfl, fun v hv => by rw [e] at hv; cases hv; exact ⟨rfl, rfl⟩⟩
        have b116 : wrep c home (wayS c m home (k + 1)) x4 x5 x6 → fX0_wantedWay_b116 N str fi se ho far (nI (mmA m)) (nI home) (nI B) (fun x4 x5 x6 x7 => fX0_wantedWay_b13 N str fi se ho far (nI (mmA m)) (nI home) (nI B) n x4 x5 x6 x7) x4 x5 x6 (nI k) = some (wenc (wayS c m home (mcS c))) := fun e => by
          unfold fX0_wantedWay_b116
          exact hnx _ _ _ e
        have hd1 := hc.2.2.2.2.2 _ _ hol hh
        cases e : wayS c m home k with
        | none =>
          rw [e] at hw
          rw [if_pos (show x4 = (-9 : Int32) from hw.1)]
          exact b99 (by unfold wayS; rw [hcd, e])
        | some w =>
          rw [e] at hw
          have hwk := wayS_ok e
          have hws : w.1 < mcS c := by omega
          have hd2 := hc.2.2.2.2.2 _ _ (oth_lt hc hws) hh
          obtain ⟨-, -, -, t1, t2⟩ := hc.2.2.2.1 w.1 hws
          have hf2 := (cand_lt hwk.2).1
          obtain ⟨e4, e5⟩ := hw
          obtain ⟨e5, e6⟩ := e5 w rfl
          have hwS : wayS c m home (k + 1) = if wval c home (k, f) < wval c home w then some (k, f) else some w := by
            show (match cand c m k with | none => wayS c m home k | some f => _) = _
            rw [hcd, e]
          have keepw : ¬ wval c home (k, f) < wval c home w → wrep c home (wayS c m home (k + 1)) x4 x5 x6 := fun hn => by
            rw [hwS, if_neg hn]
            exact ⟨e4, fun v hv => by cases hv; exact ⟨e5, e6⟩⟩
          rw [if_neg (by rw [e4]; exact nI_n9 (by show w.1 + 12 * w.2 < 2 ^ 31; omega)), e5]
          unfold wval at hwS keepw
          by_cases q1 : mcD c (oth c (k, f)) home < mcD c (oth c w) home
          · rw [if_pos (nI_lt q1 (by omega))]
            exact b99 (by rw [hwS, if_pos (by simp only; omega)])
          · rw [if_neg (nI_nlt (by omega) (by omega))]
            by_cases q2 : mcD c (oth c (k, f)) home = mcD c (oth c w) home
            · rw [if_pos (by rw [q2]), gi_ok (by omega) (by omega), cl (by omega), g3, e6]
              by_cases q3 : mcT c w.1 ≤ mcT c k
              · rw [if_pos (nI_le q3 (by omega))]
                rw [e5, e6] at b116
                rw [e5, e6] at keepw
                exact b116 (keepw (by simp only; omega))
              · rw [if_neg (dj (by omega) (by omega))]
                exact b99 (by rw [hwS, if_pos (by simp only; omega)])
            · rw [if_neg (fun z => q2 ((nI_eq (by omega) (by omega)).mp z))]
              rw [e5] at b116
              rw [e5] at keepw
              exact b116 (keepw (by simp only; omega))
      have not : ∀ f : Nat, f ≤ 1 → barS m k f = true → cand c m k = none → (if ((nI B >>> (nI (k + 12 * f) &&& 31)) &&& (1 : Int32)) = (1 : Int32) then (fX0_wantedWay_b116 N str fi se ho far (nI (mmA m)) (nI home) (nI B) (fun x4 x5 x6 x7 => fX0_wantedWay_b13 N str fi se ho far (nI (mmA m)) (nI home) (nI B) n x4 x5 x6 x7) x4 x5 x6 (nI k)) else none) = some (wenc (wayS c m home (mcS c))) := fun f hf hbar hcd => by
        rw [if_pos ((bit1 (by omega) (by omega)).mpr (by rw [hb k f (by omega) hf]; exact hbar))]
        unfold fX0_wantedWay_b116
        exact hnx _ _ _ (keep hcd)
      by_cases hA : mcA c k = mmA m
      · rw [if_pos hA, if_neg (nI_n9 (by omega))]
        have := may 0 (by omega)
        by_cases hbar : barS m k 0 = true
        · have hcd : cand c m k = none := by unfold cand; rw [if_pos hA]; exact if_pos hbar
          have h3 := not 0 (by omega) hbar hcd
          rw [Nat.mul_zero, Nat.add_zero] at h3
          have hc1 : ((nI B >>> (nI k &&& 31)) &&& (1 : Int32)) = (1 : Int32) := (bit1 (by omega) (by omega)).mpr (by have := hb k 0 (by omega) (by omega); rw [Nat.mul_zero, Nat.add_zero] at this; rw [this]; exact hbar)
          rw [if_pos hc1] at h3 ⊢
          exact h3
        · have hcd : cand c m k = some 0 := by unfold cand; rw [if_pos hA]; exact if_neg hbar
          have h3 := may 0 (by omega) hcd
          rw [Nat.mul_zero, Nat.add_zero] at h3
          exact h3
      · rw [if_neg hA]
        by_cases hBk : mcB c k = mmA m
        · rw [if_pos hBk, if_neg (nI_n9 (by omega))]
          by_cases hbar : barS m k 1 = true
          · have hcd : cand c m k = none := by unfold cand; rw [if_neg hA, if_pos hBk]; exact if_pos hbar
            have h3 := not 1 (by omega) hbar hcd
            have hc1 : ((nI B >>> (nI (k + 12) &&& 31)) &&& (1 : Int32)) = (1 : Int32) := (bit1 (by omega) (by omega)).mpr (by have := hb k 1 (by omega) (by omega); rw [Nat.mul_one] at this; rw [this]; exact hbar)
            rw [Nat.mul_one, if_pos hc1] at h3
            rw [if_pos hc1]
            exact h3
          · have hcd : cand c m k = some 1 := by unfold cand; rw [if_neg hA, if_pos hBk]; exact if_neg hbar
            have h3 := may 1 (by omega) hcd
            rw [Nat.mul_one] at h3
            exact h3
        · rw [if_neg hBk, if_pos rfl]
          unfold fX0_wantedWay_b116
          exact hnx _ _ _ (keep (by unfold cand; rw [if_neg hA, if_neg hBk]))
    · have hk2 : k = mcS c := by omega
      subst hk2
      rw [if_pos (by rw [hstr]; exact nI_le (by omega) (by omega)), hw.1]
theorem wantedWay_ok (hN : 13 ≤ N) (hc : wfC c) (hstr : str = nI (mcS c)) (hst : ∀ i, i < mcS c → fi i = nI (mcA c i) ∧ se i = nI (mcB c i) ∧ ho i = nI (mcT c i)) (hfar : ∀ a b, a < mcC c → b < mcC c → far a b = nI (mcD c a b)) (hh : home < mcC c) (ha : mmA m < mcC c) (hB : B < 2 ^ 24) (hb : ∀ s f, s < 12 → f ≤ 1 → B.testBit (s + 12 * f) = barS m s f) :
    fX0_wantedWay N str fi se ho far (nI (mmA m)) (nI home) (nI B) = some (wenc (wayS c m home (mcS c))) := by
  unfold fX0_wantedWay
  exact wanted_loop hc hstr hst hfar hh ha hB hb N 0 _ _ _ (Nat.zero_le _) (by have := hc.2.1; omega) ⟨rfl, fun v hv => by simp [wayS] at hv⟩
end WW
