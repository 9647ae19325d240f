/-! the way and LED, in the model -/
def menc (w : Option (Nat × Nat)) : Int32 := match w with
  | none => (-9 : Int32)
  | some w => nI (2 * w.1 + w.2)
def mrep (c : MC) (home : Nat) (w : Option (Nat × Nat)) (x3 x4 : Int32) : Prop := x3 = menc w ∧ ∀ v, w = some v → x4 = nI (wval c home v)
section MW
variable {N n1 : Nat} {c : MC} {m : MM} {st en ti ho far p1 : Nat → Int32} {home l : Nat}
theorem wval_le (hc : wfC c) (hh : home < mcC c) {w : Nat × Nat} (h : w.1 < mcS c) : wval c home w ≤ 999 := by
  have h1 := hc.2.2.2.2.2 _ _ (oth_lt hc h) hh
  have h2 := hc.2.2.2.1 w.1 h
  unfold wval
  omega
/-- of the best so far and one that may or may not be gone -/
def better (c : MC) (home : Nat) (b : Option (Nat × Nat)) (k f : Nat) (may : Bool) : Option (Nat × Nat) :=
  if may = true then (match b with
    | none => some (k, f)
    | some w => if wval c home (k, f) < wval c home w then some (k, f) else some w) else b
def mayS (c : MC) (m : MM) (k f : Nat) : Bool := decide ((if f = 0 then mcA c k else mcB c k) = mmA m) && !((mmS m).testBit k) && !((mmK m k).testBit f)
theorem way_inner (hc : wfC c) (hst : ∀ i, i < mcS c → en (2 * i) = nI (mcA c i) ∧ en (2 * i + 1) = nI (mcB c i) ∧ ti i = nI (mcT c i)) (hfar : ∀ a b, a < mcC c → b < mcC c → far (8 * a + b) = nI (mcD c a b)) (hh : home < mcC c) (hho : ho l = nI home) (hl : l < 6) (hn1 : 17 ≤ n1) (hn2 : n1 ≤ 1000) (hm : MMarch m p1) (ha : mmA m < mcC c) (hS : mmS m < 2 ^ 12) (hK : ∀ s, mmK m s ≤ 3) {k : Nat} (hk : k < mcS c) {f : Nat} (hf : f ≤ 1) (b : Option (Nat × Nat)) (hb : ∀ w, b = some w → w.1 < mcS c ∧ w.2 ≤ 1) (K9 : Int32 → Int32 → Int32 → Option Int32) {x3 x4 : Int32} (hr : mrep c home b x3 x4) (fu : Nat) :
    ∃ y3 y4, mrep c home (better c home b k f (mayS c m k f)) y3 y4 ∧ fX10_way_b23 N n1 st en ti ho far p1 (nI l) K9 (fu + 1) x3 x4 (nI k) (nI f) = fX10_way_b23 N n1 st en ti ho far p1 (nI l) K9 fu y3 y4 (nI k) (nI (f + 1)) := by
  obtain ⟨a0, a1, a2, a3, a4, a5⟩ := hm
  have hkS := hc.2.1
  have hC := hc.1
  obtain ⟨w1, w2, w3, w4, w5⟩ := hc.2.2.2.1 k hk
  obtain ⟨g1, g2, g3⟩ := hst k hk
  have hol : oth c (k, f) < mcC c := oth_lt hc hk
  have hd := hc.2.2.2.2.2 _ _ hol hh
  have een : en (2 * k + f) = nI (if f = 0 then mcA c k else mcB c k) := by
    rcases (show f = 0 ∨ f = 1 by omega) with rfl | rfl
    · exact g1
    · exact g2
  have eoth : en (2 * k + 1 - f) = nI (oth c (k, f)) := by
    rcases (show f = 0 ∨ f = 1 by omega) with rfl | rfl
    · exact g2
    · rw [show 2 * k + 1 - 1 = 2 * k by omega]; exact g1
  have hfar' := hfar _ _ hol hh
  have e1 : (2 : Int32) * nI k + nI f = nI (2 * k + f) := by rw [show (2 : Int32) = nI 2 from rfl, pk_mul, nI_add]
  have e2 : (2 : Int32) * nI k + 1 - nI f = nI (2 * k + 1 - f) := by rw [show (2 : Int32) = nI 2 from rfl, pk_mul, nI_1, pk_sub (by omega)]
  have e3 : (8 : Int32) * nI (oth c (k, f)) + nI home = nI (8 * oth c (k, f) + home) := by rw [show (8 : Int32) = nI 8 from rfl, pk_mul, nI_add]
  have e4 : (5 : Int32) + nI k = nI (5 + k) := by rw [show (5 : Int32) = nI 5 from rfl, nI_add]
  have e5 : (10 : Int32) * nI (mcD c (oth c (k, f)) home) + nI (mcT c k) = nI (wval c home (k, f)) := by rw [show (10 : Int32) = nI 10 from rfl, pk_mul, nI_add]; rfl
  have hv : wval c home (k, f) ≤ 999 := wval_le hc hh hk
  have b77 : ∀ y0 : Int32, fX10_way_b77 N n1 st en ti ho far p1 (nI l) K9 (fun x3 x4 x5 x6 => fX10_way_b23 N n1 st en ti ho far p1 (nI l) K9 fu x3 x4 x5 x6) x3 x4 (nI k) (nI f) y0 =
      (if y0 = 0 then fX10_way_b23 N n1 st en ti ho far p1 (nI l) K9 fu x3 x4 (nI k) (nI (f + 1)) else (if x3 = (-9 : Int32) then fX10_way_b23 N n1 st en ti ho far p1 (nI l) K9 fu (nI (2 * k + f)) (nI (wval c home (k, f))) (nI k) (nI (f + 1)) else (if x4 ≤ nI (wval c home (k, f)) then fX10_way_b23 N n1 st en ti ho far p1 (nI l) K9 fu x3 x4 (nI k) (nI (f + 1)) else fX10_way_b23 N n1 st en ti ho far p1 (nI l) K9 fu (nI (2 * k + f)) (nI (wval c home (k, f))) (nI k) (nI (f + 1))))) := fun y0 => by
    unfold fX10_way_b77 fX10_way_b139 fX10_way_b151
    rw [e2, gi_ok (by omega) (by omega), gi_ok (by omega) (by omega), cl (show 2 * k + 1 - f < 2 ^ 31 by omega), cl (show l < 2 ^ 31 by omega), eoth, hho, e3, gi_ok (by omega) (by omega), gi_ok (by omega) (by omega), cl (show 8 * oth c (k, f) + home < 2 ^ 31 by omega), cl (show k < 2 ^ 31 by omega), hfar', g3, e5, e1, nI_1]
  rw [fX10_way_b23, if_neg (by rw [show (2 : Int32) = nI 2 from rfl]; exact dj (by omega) (by omega)), e1, gi_ok (by omega) (by omega), gil (j := 0) (a := 0) rfl (by omega) (by omega), cl (show 2 * k + f < 2 ^ 31 by omega), cl0, een, a0]
  have nomay : mayS c m k f = false → ∃ y3 y4, mrep c home (better c home b k f (mayS c m k f)) y3 y4 ∧ fX10_way_b76 N n1 st en ti ho far p1 (nI l) K9 (fun x3 x4 x5 x6 => fX10_way_b23 N n1 st en ti ho far p1 (nI l) K9 fu x3 x4 x5 x6) x3 x4 (nI k) (nI f) = fX10_way_b23 N n1 st en ti ho far p1 (nI l) K9 fu y3 y4 (nI k) (nI (f + 1)) := fun h => by
    refine ⟨x3, x4, by rw [h]; exact hr, ?_⟩
    unfold fX10_way_b76
    rw [b77, if_pos rfl]
  by_cases q1 : (if f = 0 then mcA c k else mcB c k) = mmA m
  · rw [if_pos (by rw [q1]), gil (j := 4) (a := 4) rfl (by omega) (by omega), cl4, a4]
    by_cases q2 : (mmS m).testBit k = false
    · rw [if_pos ((bit0 (by omega) (by omega)).mpr q2), e4, gi_ok (by omega) (by omega), cl (show 5 + k < 2 ^ 31 by omega), a5 k (by omega)]
      have hKk := hK k
      by_cases q3 : (mmK m k).testBit f = false
      · rw [if_pos ((bit0 (by omega) (by omega)).mpr q3), b77, if_neg (by decide)]
        have hmay : mayS c m k f = true := by unfold mayS; rw [q2, q3]; simp [q1]
        unfold better
        rw [if_pos hmay]
        cases hb' : b with
        | none =>
          rw [hb'] at hr
          rw [if_pos (show x3 = (-9 : Int32) from hr.1)]
          exact ⟨_, _, ⟨rfl, fun v hv => by cases hv; rfl⟩, rfl⟩
        | some w =>
          rw [hb'] at hr
          obtain ⟨hw1, hw2⟩ := hb w hb'
          have hvw := wval_le (home := home) hc hh hw1
          obtain ⟨r1, r2⟩ := hr
          have r2 := r2 w rfl
          rw [if_neg (by rw [r1]; exact nI_n9 (by show 2 * w.1 + w.2 < 2 ^ 31; omega))]
          by_cases q4 : wval c home (k, f) < wval c home w
          · rw [if_neg (by rw [r2]; exact dj q4 (by omega))]
            simp only [if_pos q4]
            exact ⟨_, _, ⟨rfl, fun v hv => by cases hv; rfl⟩, rfl⟩
          · rw [if_pos (by rw [r2]; exact nI_le (by omega) (by omega))]
            simp only [if_neg q4]
            exact ⟨_, _, ⟨r1, fun v hv => by cases hv; exact r2⟩, rfl⟩
      · rw [if_neg (fun z => q3 ((bit0 (by omega) (by omega)).mp z))]
        exact nomay (by unfold mayS; simp at q3; rw [q3]; simp)
    · rw [if_neg (fun z => q2 ((bit0 (by omega) (by omega)).mp z))]
      exact nomay (by unfold mayS; simp at q2; rw [q2]; simp)
  · rw [if_neg (fun z => q1 ((nI_eq (by split <;> omega) (by omega)).mp z))]
    exact nomay (by unfold mayS; simp [q1])
theorem better_two (hc : wfC c) {k : Nat} (hk : k < mcS c) : better c home (better c home (wayS c m home k) k 0 (mayS c m k 0)) k 1 (mayS c m k 1) = wayS c m home (k + 1) := by
  obtain ⟨w1, w2, w3, w4, w5⟩ := hc.2.2.2.1 k hk
  show _ = (match cand c m k with | none => wayS c m home k | some f => _)
  unfold cand mayS
  generalize wayS c m home k = b
  by_cases hA : mcA c k = mmA m
  · have hB : ¬ mcB c k = mmA m := fun e => w3 (hA.trans e.symm)
    by_cases q : (mmS m).testBit k = true <;> by_cases r : (mmK m k).testBit 0 = true <;> cases b <;> simp [hA, hB, q, r, better]
  · by_cases hB : mcB c k = mmA m
    · by_cases q : (mmS m).testBit k = true <;> by_cases r : (mmK m k).testBit 1 = true <;> cases b <;> simp [hA, hB, q, r, better]
    · simp [hA, hB, better]
theorem mway_ok (hN : 13 ≤ N) (hc : wfC c) (hs0 : st 0 = nI (mcS c)) (hst : ∀ i, i < mcS c → en (2 * i) = nI (mcA c i) ∧ en (2 * i + 1) = nI (mcB c i) ∧ ti i = nI (mcT c i)) (hfar : ∀ a b, a < mcC c → b < mcC c → far (8 * a + b) = nI (mcD c a b)) (hh : home < mcC c) (hho : ho l = nI home) (hl : l < 6) (hn1 : 17 ≤ n1) (hn2 : n1 ≤ 1000) (hm : MMarch m p1) (ha : mmA m < mcC c) (hS : mmS m < 2 ^ 12) (hK : ∀ s, mmK m s ≤ 3) :
    fX10_way N n1 st en ti ho far p1 (nI l) = some (menc (wayS c m home (mcS c))) := by
  unfold fX10_way
  have key : ∀ (n k : Nat) (x3 x4 : Int32), k ≤ mcS c → mcS c < k + n → mrep c home (wayS c m home k) x3 x4 → fX10_way_b9 N n1 st en ti ho far p1 (nI l) n x3 x4 (nI k) = some (menc (wayS c m home (mcS c))) := by
    intro n
    induction n with
    | zero => intro k x3 x4 h1 h2; exact absurd h2 (by omega)
    | succ n ih =>
      intro k x3 x4 h1 h2 hr
      have hkS := hc.2.1
      rw [fX10_way_b9, cl0]
      by_cases hk : k < mcS c
      · rw [if_neg (by rw [hs0]; exact dj hk (by omega))]
        obtain ⟨fu, rfl⟩ : ∃ j, N = j + 3 := ⟨N - 3, by omega⟩
        have hb0 : ∀ w, wayS c m home k = some w → w.1 < mcS c ∧ w.2 ≤ 1 := fun w e => ⟨by have := (wayS_ok e).1; omega, (cand_lt (wayS_ok e).2).1⟩
        obtain ⟨y3, y4, hy, e1⟩ := way_inner (N := fu + 3) (n1 := n1) (st := st) (en := en) (ti := ti) (ho := ho) (far := far) (p1 := p1) hc hst hfar hh hho hl hn1 hn2 hm ha hS hK hk (f := 0) (by omega) _ hb0 (fun x3 x4 x5 => fX10_way_b9 (fu + 3) n1 st en ti ho far p1 (nI l) n x3 x4 x5) hr (fu + 2)
        have hb1 : ∀ w, better c home (wayS c m home k) k 0 (mayS c m k 0) = some w → w.1 < mcS c ∧ w.2 ≤ 1 := fun w e => by
          unfold better at e
          split at e
          · split at e
            · cases e; exact ⟨hk, by simp⟩
            · rename_i w' hw'
              split at e
              · cases e; exact ⟨hk, by simp⟩
              · cases e; exact hb0 _ hw'
          · exact hb0 w e
        obtain ⟨z3, z4, hz, e2⟩ := way_inner (N := fu + 3) (n1 := n1) (st := st) (en := en) (ti := ti) (ho := ho) (far := far) (p1 := p1) hc hst hfar hh hho hl hn1 hn2 hm ha hS hK hk (f := 1) (by omega) _ hb1 (fun x3 x4 x5 => fX10_way_b9 (fu + 3) n1 st en ti ho far p1 (nI l) n x3 x4 x5) hy (fu + 1)
        rw [show (0 : Int32) = nI 0 from rfl, e1, e2, fX10_way_b23, if_pos (by rw [show (2 : Int32) = nI 2 from rfl]; exact nI_le (by omega) (by omega)), nI_1]
        rw [better_two hc hk] at hz
        exact ih (k + 1) z3 z4 hk (by omega) hz
      · have hk2 : k = mcS c := by omega
        subst hk2
        rw [if_pos (by rw [hs0]; exact nI_le (by omega) (by omega)), hr.1]
  exact key N 0 _ _ (Nat.zero_le _) (by have := hc.2.1; omega) ⟨rfl, fun v hv => by simp [wayS] at hv⟩
end MW
theorem upd_same (f : Nat → Int32) (k : Nat) (x : Int32) : upd f k x k = x := pk_us
theorem upd_ne (f : Nat → Int32) {k j : Nat} (x : Int32) (h : j ≠ k) : upd f k x j = f j := pk_un h
section ML
variable {N n1 : Nat} {c : MC} {st en ti ho fe far : Nat → Int32} {l : Nat}
/-- what the model writes as a street is gone -/
def mstep (c : MC) (m : MM) (p1 : Nat → Int32) (w : Nat × Nat) : Nat → Int32 := upd (upd (upd p1 (5 + w.1) (nI (mmK m w.1 ||| 2 ^ w.2))) 0 (nI (oth c w))) 1 (nI (mmH m + mcT c w.1))
theorem mstep_ok {m : MM} {p1 : Nat → Int32} {w : Nat × Nat} (hm : MMarch m p1) (hw : w.1 < 12) : MMarch (stepS c m w) (mstep c m p1 w) ∧ ∀ k, 17 ≤ k → mstep c m p1 w k = p1 k := by
  obtain ⟨a0, a1, a2, a3, a4, a5⟩ := hm
  unfold mstep
  refine ⟨⟨?_, ?_, ?_, ?_, ?_, fun s hs => ?_⟩, fun k hk => ?_⟩
  · rw [upd_ne _ _ (by omega), upd_same]; rfl
  · rw [upd_same]; rfl
  · rw [upd_ne _ _ (by omega), upd_ne _ _ (by omega), upd_ne _ _ (by omega)]; exact a2
  · rw [upd_ne _ _ (by omega), upd_ne _ _ (by omega), upd_ne _ _ (by omega)]; exact a3
  · rw [upd_ne _ _ (by omega), upd_ne _ _ (by omega), upd_ne _ _ (by omega)]; exact a4
  · rw [upd_ne _ _ (by omega), upd_ne _ _ (by omega)]
    show _ = nI (if s = w.1 then mmK m s ||| 2 ^ w.2 else mmK m s)
    by_cases e : s = w.1
    · subst e
      rw [upd_same, if_pos rfl]
    · rw [upd_ne _ _ (by omega), if_neg e]
      exact a5 s hs
  · rw [upd_ne _ _ (by omega), upd_ne _ _ (by omega), upd_ne _ _ (by omega)]
/-- the march behind it, but for who led and the fine -/
theorem lead_end (hl : l < 6) (hn1 : 17 ≤ n1) (hn2 : n1 ≤ 1000) {m m' : MM} {p1 : Nat → Int32} (hm : MMarch m' p1) (hF : mmF m' = mmF m) (hL : mmL m' = mmL m) (hSS : mmS m' = mmS m) (b : Bool) :
    ∃ q, MMarch (mmA m', mmH m', mmF m + (if b then 1 else 0), mmL m ||| 2 ^ l, mmS m, mmK m') q ∧ (∀ k, 17 ≤ k → q k = p1 k) ∧ fX10_lead_b131 N n1 st en ti ho fe far (nI l) p1 (bI b) = some (bI b, q) := by
  obtain ⟨a0, a1, a2, a3, a4, a5⟩ := hm
  refine ⟨upd (upd p1 2 (nI (mmF m + (if b then 1 else 0)))) 3 (nI (mmL m ||| 2 ^ l)), ⟨?_, ?_, ?_, ?_, ?_, fun s hs => ?_⟩, fun k hk => ?_, ?_⟩
  · rw [upd_ne _ _ (by omega), upd_ne _ _ (by omega)]; exact a0
  · rw [upd_ne _ _ (by omega), upd_ne _ _ (by omega)]; exact a1
  · rw [upd_ne _ _ (by omega), upd_same]; rfl
  · rw [upd_same]; rfl
  · rw [upd_ne _ _ (by omega), upd_ne _ _ (by omega), a4, hSS]; rfl
  · rw [upd_ne _ _ (by omega), upd_ne _ _ (by omega)]; exact a5 s hs
  · rw [upd_ne _ _ (by omega), upd_ne _ _ (by omega)]
  · unfold fX10_lead_b131 fX10_lead_b144
    have z2 : ∀ (k : Option (Int32 × (Nat → Int32))), gi (2 : Int32) n1 k = k := fun k => gil (a := 2) rfl (by omega) (by omega)
    have z3 : ∀ (k : Option (Int32 × (Nat → Int32))), gi (3 : Int32) n1 k = k := fun k => gil (a := 3) rfl (by omega) (by omega)
    simp only [z2, z3]
    rw [cl2, cl3, a2, hF, one_shl (by omega)]
    rw [upd_ne _ _ (show 3 ≠ 2 by omega), upd_ne _ _ (show 3 ≠ 2 by omega), a3, hL, fa_or]
    cases b
    · rw [if_pos (by decide), gc_ok (by decide), show nI (mmF m) + (0 : Int32) = nI (mmF m + 0) from by rw [show (0 : Int32) = nI 0 from rfl, nI_add]]
      rfl
    · rw [if_neg (by decide), gc_ok (by decide), show nI (mmF m) + (1 : Int32) = nI (mmF m + 1) from nI_1 _]
      rfl
theorem lead_loop (hN : 13 ≤ N) (hc : wfC c) (hs0 : st 0 = nI (mcS c)) (hst : ∀ i, i < mcS c → en (2 * i) = nI (mcA c i) ∧ en (2 * i + 1) = nI (mcB c i) ∧ ti i = nI (mcT c i)) (hfar : ∀ a b, a < mcC c → b < mcC c → far (8 * a + b) = nI (mcD c a b)) (hl : l < mcL c) (hho : ho l = nI (mcH c l)) (hfe : fe l = nI (mcF c l)) (hn1 : 17 ≤ n1) (hn2 : n1 ≤ 1000) :
    ∀ (n g fu : Nat) (m : MM) (p1 : Nat → Int32), g + n = mcF c l → n < fu → onway c m → MMarch m p1 →
      ∃ q, MMarch (mmA (goS c (mcH c l) n m).2, mmH (goS c (mcH c l) n m).2, mmF m + (if (goS c (mcH c l) n m).1 then 1 else 0), mmL m ||| 2 ^ l, mmS m, mmK (goS c (mcH c l) n m).2) q ∧ (∀ k, 17 ≤ k → q k = p1 k) ∧ fX10_lead_b8 N n1 st en ti ho fe far (nI l) fu p1 (0 : Int32) (1 : Int32) (nI g) = some (bI (goS c (mcH c l) n m).1, q) := by
  have hL := hc.2.2.1
  have hCC := hc.1
  have hSS := hc.2.1
  obtain ⟨p1', p2, p3⟩ := hc.2.2.2.2.1 l hl
  intro n
  induction n with
  | zero =>
    intro g fu m p1 hg hfu hm hmm
    obtain ⟨fu, rfl⟩ : ∃ k, fu = k + 1 := ⟨fu - 1, by omega⟩
    obtain ⟨q, h1, h2, h3⟩ := lead_end (N := N) (n1 := n1) (st := st) (en := en) (ti := ti) (ho := ho) (fe := fe) (far := far) (show l < 6 by omega) hn1 hn2 (m := m) hmm rfl rfl rfl false
    refine ⟨q, h1, h2, ?_⟩
    rw [fX10_lead_b8, gi_ok (by omega) (by omega), cl (by omega), hfe, if_pos (nI_le (by omega) (by omega))]
    exact h3
  | succ n ih =>
    intro g fu m p1 hg hfu hm hmm
    obtain ⟨fu, rfl⟩ : ∃ k, fu = k + 1 := ⟨fu - 1, by omega⟩
    obtain ⟨fv, rfl⟩ : ∃ k, fu = k + 1 := ⟨fu - 1, by omega⟩
    have fin : ∀ (m' : MM) (p : Nat → Int32) (b : Bool), MMarch m' p → mmF m' = mmF m → mmL m' = mmL m → mmS m' = mmS m → (∀ k, 17 ≤ k → p k = p1 k) → ∃ q, MMarch (mmA m', mmH m', mmF m + (if b then 1 else 0), mmL m ||| 2 ^ l, mmS m, mmK m') q ∧ (∀ k, 17 ≤ k → q k = p1 k) ∧ fX10_lead_b8 N n1 st en ti ho fe far (nI l) (fv + 1) p (bI b) (0 : Int32) (nI g + 1) = some (bI b, q) := by
      intro m' p b h1 h2 h3 h4 h5
      obtain ⟨q, q1, q2, q3⟩ := lead_end (N := N) (n1 := n1) (st := st) (en := en) (ti := ti) (ho := ho) (fe := fe) (far := far) (show l < 6 by omega) hn1 hn2 (m := m) h1 h2 h3 h4 b
      refine ⟨q, q1, fun k hk => (q2 k hk).trans (h5 k hk), ?_⟩
      rw [fX10_lead_b8, gi_ok (by omega) (by omega)]
      split
      · exact q3
      · rw [if_pos rfl]; exact q3
    rw [fX10_lead_b8, gi_ok (by omega) (by omega), cl (by omega), hfe, if_neg (dj (by omega) (by omega)), if_neg (show ¬ ((1 : Int32) = 0) by decide), mway_ok (home := mcH c l) hN hc hs0 hst hfar p1' hho (by omega) hn1 hn2 hmm hm.1 hm.2.1 hm.2.2.1, Option.bind_some]
    cases e : wayS c m (mcH c l) (mcS c) with
    | none =>
      have hr : goS c (mcH c l) (n + 1) m = (true, m) := by unfold goS; rw [e]
      rw [hr]
      obtain ⟨q, q1, q2, q3⟩ := fin m p1 true hmm rfl rfl rfl (fun _ _ => rfl)
      refine ⟨q, q1, q2, ?_⟩
      rw [show menc none = (-9 : Int32) from rfl, if_pos rfl]
      unfold fX10_lead_b44 fX10_lead_b102 fX10_lead_b122 fX10_lead_b123
      rw [if_neg (by decide), if_neg (by decide)]
      exact q3
    | some w =>
      have hw := wayS_ok e
      have hf := (cand_lt hw.2).1
      have hol := oth_lt hc hw.1
      obtain ⟨g1, g2, g3⟩ := hst w.1 hw.1
      obtain ⟨s1, s2⟩ := mstep_ok (c := c) hmm (show w.1 < 12 by omega)
      obtain ⟨a0, a1, a2, a3, a4, a5⟩ := hmm
      rw [show menc (some w) = nI (2 * w.1 + w.2) from rfl, if_neg (nI_n9 (by omega))]
      unfold fX10_lead_b44
      rw [if_pos rfl]
      have ediv : nI (2 * w.1 + w.2) / (2 : Int32) = nI w.1 := by rw [show (2 : Int32) = nI 2 from rfl, pk_div (by omega) (by omega) (by omega)]; exact nI_cong (by omega)
      have erem : nI (2 * w.1 + w.2) - nI w.1 * (2 : Int32) = nI w.2 := by rw [show (2 : Int32) = nI 2 from rfl, pk_mul, pk_sub (by omega)]; exact nI_cong (by omega)
      have e5 : (5 : Int32) + nI w.1 = nI (5 + w.1) := by rw [show (5 : Int32) = nI 5 from rfl, nI_add]
      have e2 : (2 : Int32) * nI w.1 + 1 - nI w.2 = nI (2 * w.1 + 1 - w.2) := by rw [show (2 : Int32) = nI 2 from rfl, pk_mul, nI_1, pk_sub (by omega)]
      have eoth : en (2 * w.1 + 1 - w.2) = nI (oth c w) := by
        unfold oth
        rcases (show w.2 = 0 ∨ w.2 = 1 by omega) with h | h
        · rw [h, if_pos rfl]; exact g2
        · rw [h, if_neg (by omega), show 2 * w.1 + 1 - 1 = 2 * w.1 by omega]; exact g1
      rw [ediv, erem, e5, e2, gi_ok (by omega) (by omega), gi_ok (by omega) (by omega), gi_ok (by omega) (by omega), gil (j := 0) (a := 0) rfl (by omega) (by omega), gi_ok (by omega) (by omega), gil (j := 1) (a := 1) rfl (by omega) (by omega), gil (j := 1) (a := 1) rfl (by omega) (by omega), cl (show 5 + w.1 < 2 ^ 31 by omega), cl0, cl1, cl (show w.1 < 2 ^ 31 by omega), cl (show 2 * w.1 + 1 - w.2 < 2 ^ 31 by omega), a5 w.1 (by omega), one_shl (by omega), fa_or, eoth, g3, upd_ne _ _ (show 1 ≠ 0 by omega), upd_ne _ _ (show 1 ≠ 5 + w.1 by omega), a1, nI_add]
      show ∃ q, _ ∧ _ ∧ fX10_lead_b102 N n1 st en ti ho fe far (nI l) _ (mstep c m p1 w) (0 : Int32) (nI g) = _
      unfold fX10_lead_b102
      rw [if_pos rfl, gil (j := 0) (a := 0) rfl (by omega) (by omega), gi_ok (by omega) (by omega), cl0, cl (show l < 2 ^ 31 by omega), hho, s1.1]
      have hr : goS c (mcH c l) (n + 1) m = if oth c w = mcH c l then (false, stepS c m w) else goS c (mcH c l) n (stepS c m w) := by rw [goS, e]
      by_cases q : oth c w = mcH c l
      · rw [if_pos q] at hr
        rw [if_pos (show nI (mmA (stepS c m w)) = nI (mcH c l) from congrArg nI q), hr]
        obtain ⟨q', q1, q2, q3⟩ := fin (stepS c m w) (mstep c m p1 w) false s1 rfl rfl rfl s2
        exact ⟨q', q1, q2, q3⟩
      · rw [if_neg q] at hr
        rw [if_neg (fun z : nI (mmA (stepS c m w)) = nI (mcH c l) => q ((nI_eq (show oth c w < 2 ^ 31 by omega) (by omega)).mp z)), hr]
        obtain ⟨q', q1, q2, q3⟩ := ih (g + 1) (fv + 1) (stepS c m w) (mstep c m p1 w) (by omega) (by omega) (onway_step hc hm e) s1
        refine ⟨q', q1, fun k hk => (q2 k hk).trans (s2 k hk), ?_⟩
        unfold fX10_lead_b123
        rw [nI_1]
        exact q3
theorem lead_ok (hN : 13 ≤ N) (hc : wfC c) {co le : Nat → Int32} (hcc : MCity c co st le en ti ho fe far) {m : MM} {p1 : Nat → Int32} (hm' : wfM c m) (hmm : MMarch m p1) (hl : l < mcL c) (hn1 : 17 ≤ n1) (hn2 : n1 ≤ 1000) :
    ∃ q, MMarch (leadS c m l).2 q ∧ (∀ k, 17 ≤ k → q k = p1 k) ∧ fX10_lead N n1 st en ti ho fe far p1 (nI l) = some (bI (leadS c m l).1, q) := by
  obtain ⟨h1, h2, h3, h4, h5, h6⟩ := hcc
  obtain ⟨g1, g2⟩ := h5 l hl
  obtain ⟨p1', p2, p3⟩ := hc.2.2.2.2.1 l hl
  have hS : mmS m < 2 ^ 12 := Nat.lt_of_lt_of_le hm'.2.2.1 (Nat.pow_le_pow_right (by omega) hc.2.1)
  have hway : onway c m := ⟨hm'.1.resolve_right (fun z => by omega), hS, hm'.2.2.2.1, hm'.2.2.2.2.1⟩
  obtain ⟨q, q1, q2, q3⟩ := lead_loop (N := N) (n1 := n1) hN hc h2 h4 h6 hl g1 g2 hn1 hn2 (mcF c l) 0 N m p1 (by omega) (by omega) hway hmm
  exact ⟨q, q1, q2, q3⟩
end ML
/-- the march behind LED is well formed -/
theorem goS_keeps {c : MC} {home : Nat} (hc : wfC c) : ∀ (n : Nat) (m : MM), onway c m → onway c (goS c home n m).2 ∧ mmF (goS c home n m).2 = mmF m ∧ mmL (goS c home n m).2 = mmL m ∧ mmS (goS c home n m).2 = mmS m ∧ mmH (goS c home n m).2 ≤ mmH m + 9 * n
  | 0, m, h => ⟨h, rfl, rfl, rfl, Nat.le_refl _⟩
  | n + 1, m, h => by
    unfold goS
    cases e : wayS c m home (mcS c) with
    | none => exact ⟨h, rfl, rfl, rfl, by show mmH m ≤ _; omega⟩
    | some w =>
      have h2 := onway_step hc h e
      have h3 := hc.2.2.2.1 w.1 (wayS_ok e).1
      simp only
      split
      · exact ⟨h2, rfl, rfl, rfl, by show mmH m + mcT c w.1 ≤ _; omega⟩
      · obtain ⟨r1, r2, r3, r4, r5⟩ := goS_keeps hc n (stepS c m w) h2
        refine ⟨r1, r2, r3, r4, Nat.le_trans r5 ?_⟩
        show mmH m + mcT c w.1 + 9 * n ≤ _
        omega
theorem leadS_wf {c : MC} {m : MM} {l : Nat} (hc : wfC c) (h : wfM c m) (hl : l < mcL c) (hn : (mmL m).testBit l = false) : wfM c (leadS c m l).2 := by
  obtain ⟨p1, p2, p3⟩ := hc.2.2.2.2.1 l hl
  have hS : mmS m < 2 ^ 12 := Nat.lt_of_lt_of_le h.2.2.1 (Nat.pow_le_pow_right (by omega) hc.2.1)
  have hway : onway c m := ⟨h.1.resolve_right (fun z => by omega), hS, h.2.2.2.1, h.2.2.2.2.1⟩
  obtain ⟨r1, r2, r3, r4, r5⟩ := goS_keeps (home := mcH c l) hc (mcF c l) m hway
  have hp := pop_or (mmL m) l hn 6
  rw [if_pos (by have := hc.2.2.1; omega)] at hp
  refine ⟨Or.inl r1.1, ?_, h.2.2.1, r1.2.2.1, r1.2.2.2, ?_, ?_⟩
  · exact or_lt h.2.1 (Nat.pow_lt_pow_right (by omega) hl)
  · show mmF m + _ ≤ pop (mmL m ||| 2 ^ l) 6
    have := h.2.2.2.2.2.1
    split <;> omega
  · show mmH (goS c (mcH c l) (mcF c l) m).2 ≤ 45 * pop (mmL m ||| 2 ^ l) 6
    have := h.2.2.2.2.2.2
    omega
