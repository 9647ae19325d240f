/-! LED by a leader, in the class -/
theorem tkn_step {K : Nat → Nat} {T s f : Nat} (h : tkn K T) (hs : s < 12) (hf : f ≤ 1) : tkn (fun i => if i = s then K i ||| 2 ^ f else K i) (T ||| 2 ^ (s + 12 * f)) := by
  refine ⟨or_lt h.1 (Nat.pow_lt_pow_right (by omega) (by omega)), fun i hi => ?_⟩
  have h2 := h.2 i hi
  rw [Nat.testBit_or, Nat.testBit_or, h2.1, h2.2, tb_pow, tb_pow]
  rcases (show f = 0 ∨ f = 1 by omega) with rfl | rfl
  · by_cases e : i = s
    · subst e
      simp [Nat.testBit_or, tb_pow, show Nat.testBit 1 1 = false from by decide]
    · simp [e, show ¬ s = i by omega, show ¬ s = i + 12 by omega]
  · by_cases e : i = s
    · subst e
      simp [Nat.testBit_or, tb_pow, show Nat.testBit 2 1 = true from by decide]
    · simp [e, show ¬ s + 12 = i by omega, show ¬ s = i by omega]
/-- a march on its way: what the loop keeps -/
def onway (c : MC) (m : MM) : Prop := mmA m < mcC c ∧ mmS m < 2 ^ 12 ∧ (∀ s, mmK m s ≤ 3) ∧ ∀ s, mcS c ≤ s → mmK m s = 0
theorem onway_step {c : MC} {m : MM} {home : Nat} {w : Nat × Nat} (hc : wfC c) (h : onway c m) (hw : wayS c m home (mcS c) = some w) : onway c (stepS c m w) := by
  have h1 := wayS_ok hw
  have hf := (cand_lt h1.2).1
  refine ⟨oth_lt hc h1.1, h.2.1, fun s => ?_, fun s hs => ?_⟩
  · show (if s = w.1 then mmK m s ||| 2 ^ w.2 else mmK m s) ≤ 3
    have := h.2.2.1 s
    split
    · have : mmK m s ||| 2 ^ w.2 < 2 ^ 2 := or_lt (by omega) (Nat.pow_lt_pow_right (by omega) (by omega))
      omega
    · exact this
  · show (if s = w.1 then mmK m s ||| 2 ^ w.2 else mmK m s) = 0
    rw [if_neg (by omega)]
    exact h.2.2.2 s hs
section GB
variable {N : Nat} {c : MC} {sh str lea : Int32} {fi se ho hoM fe : Nat → Int32} {far : Nat → Nat → Int32} {home : Nat} {x2 x4 : Int32} {ft fn : Nat} {led : Int32}
def bI (b : Bool) : Int32 := if b then 1 else 0
theorem goBy_loop (hN : 13 ≤ N) (hc : wfC c) (hstr : str = nI (mcS c)) (hst : ∀ i, i < mcS c → fi i = nI (mcA c i) ∧ se i = nI (mcB c i) ∧ ho i = nI (mcT c i)) (hfar : ∀ a b, a < mcC c → b < mcC c → far a b = nI (mcD c a b)) (hh : home < mcC c) (hx4 : x4 = nI ft) (hft : ft ≤ 5) :
    ∀ (n g fu : Nat) (m : MM) (T : Nat), g + (n + 1) = ft → n < fu → onway c m → sh = nI (mmS m) → tkn (mmK m) T →
      ∃ T', tkn (mmK (goS c home (n + 1) m).2) T' ∧ fX3_goBy_b63 N sh str lea fi se ho hoM fe far x2 (fun t_at t_hour t_fines t_led t_taken x3 x4 x5 x6 => fX3_goBy_b43 N sh str lea fi se ho hoM fe far x2 fu t_at t_hour t_fines t_led t_taken x3 x4 x5 x6) (nI (mmA m)) (nI (mmH m)) (nI fn) led (nI T) (nI home) x4 (0 : Int32) (nI g) =
        some (bI (goS c home (n + 1) m).1, nI (mmA (goS c home (n + 1) m).2), nI (mmH (goS c home (n + 1) m).2), nI (fn + (if (goS c home (n + 1) m).1 then 1 else 0)), led, nI T') := by
  intro n
  induction n with
  | zero =>
    intro g fu m T hg hfu hm hsh hT
    obtain ⟨fu, rfl⟩ : ∃ k, fu = k + 1 := ⟨fu - 1, by omega⟩
    unfold fX3_goBy_b63
    rw [hsh, bar_nI hT.1 hm.2.1, wantedWay_ok hN hc hstr hst hfar hh hm.1 (bar_lt hT.1 hm.2.1) (fun s f hs hf => bar_bit hT hm.2.1 hs hf), Option.bind_some]
    cases e : wayS c m home (mcS c) with
    | none =>
      refine ⟨T, ?_, ?_⟩
      · simp only [goS, e]
        exact hT
      · simp only [goS, e]
        rw [show wenc none = (-9 : Int32) from rfl, if_pos rfl, show (1 : Int32) = nI 1 from rfl, nI_add]
        rfl
    | some w =>
      have hw := wayS_ok e
      have hf := (cand_lt hw.2).1
      have hS := hc.2.1
      obtain ⟨g1, g2, g3⟩ := hst w.1 hw.1
      have hr : goS c home (0 + 1) m = (false, stepS c m w) := by
        unfold goS
        rw [e]
        simp only
        split <;> rfl
      refine ⟨T ||| 2 ^ (w.1 + 12 * w.2), ?_, ?_⟩
      · rw [hr]
        exact tkn_step hT (by omega) hf
      · rw [show wenc (some w) = nI (w.1 + 12 * w.2) from rfl, if_neg (nI_n9 (by omega)), hoursOf_ok (by omega) hf g3, Option.bind_some, otherEnd_ok (by omega) hf g1 g2, Option.bind_some, one_shl (by omega), fa_or, nI_add]
        rw [hr]
        show fX3_goBy_b43 N (nI (mmS m)) str lea fi se ho hoM fe far x2 (fu + 1) _ _ _ _ _ _ _ _ _ = _
        rw [fX3_goBy_b43, hx4, nI_1, if_pos (nI_le (by omega) (by omega)), gc_ok (by decide)]
        rfl
  | succ n ih =>
    intro g fu m T hg hfu hm hsh hT
    obtain ⟨fu, rfl⟩ : ∃ k, fu = k + 1 := ⟨fu - 1, by omega⟩
    unfold fX3_goBy_b63
    rw [hsh, bar_nI hT.1 hm.2.1, wantedWay_ok hN hc hstr hst hfar hh hm.1 (bar_lt hT.1 hm.2.1) (fun s f hs hf => bar_bit hT hm.2.1 hs hf), Option.bind_some]
    cases e : wayS c m home (mcS c) with
    | none =>
      refine ⟨T, ?_, ?_⟩
      · simp only [goS, e]
        exact hT
      · simp only [goS, e]
        rw [show wenc none = (-9 : Int32) from rfl, if_pos rfl, show (1 : Int32) = nI 1 from rfl, nI_add]
        rfl
    | some w =>
      have hw := wayS_ok e
      have hf := (cand_lt hw.2).1
      have hS := hc.2.1
      have hC := hc.1
      obtain ⟨g1, g2, g3⟩ := hst w.1 hw.1
      have hol := oth_lt hc hw.1
      rw [show wenc (some w) = nI (w.1 + 12 * w.2) from rfl, if_neg (nI_n9 (by omega)), hoursOf_ok (by omega) hf g3, Option.bind_some, otherEnd_ok (by omega) hf g1 g2, Option.bind_some, one_shl (by omega), fa_or, nI_add, nI_1]
      have hb43 : ∀ z, fX3_goBy_b43 N (nI (mmS m)) str lea fi se ho hoM fe far x2 (fu + 1) (nI (oth c w)) (nI (mmH m + mcT c w.1)) (nI fn) led (nI (T ||| 2 ^ (w.1 + 12 * w.2))) (nI home) x4 (0 : Int32) (nI (g + 1)) = z ↔ (if oth c w = home then some ((0 : Int32), nI (oth c w), nI (mmH m + mcT c w.1), nI fn, led, nI (T ||| 2 ^ (w.1 + 12 * w.2))) else fX3_goBy_b63 N (nI (mmS m)) str lea fi se ho hoM fe far x2 (fun t_at t_hour t_fines t_led t_taken x3 x4 x5 x6 => fX3_goBy_b43 N (nI (mmS m)) str lea fi se ho hoM fe far x2 fu t_at t_hour t_fines t_led t_taken x3 x4 x5 x6) (nI (oth c w)) (nI (mmH m + mcT c w.1)) (nI fn) led (nI (T ||| 2 ^ (w.1 + 12 * w.2))) (nI home) x4 (0 : Int32) (nI (g + 1))) = z := fun z => by
        rw [fX3_goBy_b43, hx4, if_neg (dj (by omega) (by omega)), if_neg (by rw [show (0 : Int32) = nI 0 from rfl, nI_eq (by omega) (by omega)]; omega), gc_ok (by decide)]
        by_cases q : oth c w = home
        · rw [if_pos (by rw [q]), if_pos q]
        · rw [if_neg (fun z => q ((nI_eq (by omega) (by omega)).mp z)), if_neg q]
      have hr : goS c home (n + 1 + 1) m = if oth c w = home then (false, stepS c m w) else goS c home (n + 1) (stepS c m w) := by
        rw [goS, e]
      have hT2 := tkn_step hT (show w.1 < 12 by omega) hf
      by_cases q : oth c w = home
      · rw [if_pos q] at hr
        refine ⟨T ||| 2 ^ (w.1 + 12 * w.2), by rw [hr]; exact hT2, ?_⟩
        rw [hr]
        refine (hb43 _).mpr ?_
        rw [if_pos q]
        rfl
      · rw [if_neg q] at hr
        obtain ⟨T', h1, h2⟩ := ih (g + 1) fu (stepS c m w) (T ||| 2 ^ (w.1 + 12 * w.2)) (by omega) (by omega) (onway_step hc hm e) hsh hT2
        refine ⟨T', by rw [hr]; exact h1, ?_⟩
        rw [hr]
        refine (hb43 _).mpr ?_
        rw [if_neg q]
        rw [hsh] at h2
        exact h2
end GB
theorem goBy_ok {N : Nat} {c : MC} {m : MM} {cor str lea at' hou fin led tak sh : Int32} {fi se ho hm fe : Nat → Int32} {far : Nat → Nat → Int32} {l : Nat} (hN : 13 ≤ N) (hc : wfC c) (hcc : CCity c cor str lea fi se ho hm fe far) (hm' : wfM c m) (hmm : CMarch m at' hou fin led tak sh) (hl : l < mcL c) :
    ∃ T', tkn (mmK (leadS c m l).2) T' ∧ fX3_goBy N at' hou fin led tak sh str lea fi se ho hm fe far (nI l) = some (bI (leadS c m l).1, nI (mmA (leadS c m l).2), nI (mmH (leadS c m l).2), nI (mmF (leadS c m l).2), nI (mmL (leadS c m l).2), nI T') := by
  obtain ⟨rfl, rfl, rfl, rfl, rfl, T, rfl, hT⟩ := hmm
  obtain ⟨h1, h2, h3, h4, h5, h6⟩ := hcc
  have hL := hc.2.2.1
  obtain ⟨p1, p2, p3⟩ := hc.2.2.2.2.1 l hl
  obtain ⟨g1, g2⟩ := h5 l hl
  have hS : mmS m < 2 ^ 12 := Nat.lt_of_lt_of_le hm'.2.2.1 (Nat.pow_le_pow_right (by omega) hc.2.1)
  have hway : onway c m := ⟨hm'.1.resolve_right (fun z => by omega), hS, hm'.2.2.2.1, hm'.2.2.2.2.1⟩
  unfold fX3_goBy fX0_hasLeader
  rw [if_neg (nI_pos (by omega)), h3, if_neg (dj hl (by omega)), Option.bind_some, if_neg (by decide), gi_ok (by omega) (by omega), gi_ok (by omega) (by omega), cl (by omega), g1, g2, one_shl (by omega), fa_or]
  obtain ⟨fu, rfl⟩ : ∃ k, N = k + 1 := ⟨N - 1, by omega⟩
  obtain ⟨n, hn⟩ : ∃ n, mcF c l = n + 1 := ⟨mcF c l - 1, by omega⟩
  obtain ⟨T', t1, t2⟩ := goBy_loop (N := fu + 1) (sh := nI (mmS m)) (lea := nI (mcL c)) (hoM := hm) (fe := fe) (x2 := nI l) (led := nI (mmL m ||| 2 ^ l)) (fn := mmF m) (by omega) hc h2 h4 h6 p1 (show nI (mcF c l) = nI (mcF c l) from rfl) p3 n 0 fu m T (by omega) (by omega) hway rfl hT
  rw [← hn] at t1 t2
  refine ⟨T', t1, ?_⟩
  rw [fX3_goBy_b43, if_neg (by rw [show (0 : Int32) = nI 0 from rfl]; exact dj (by omega) (by omega)), if_pos rfl]
  exact t2
