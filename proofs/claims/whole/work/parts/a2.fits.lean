/-! what was SEEN, held against a ROW -/
def agS (n : Nat) (p q th : Nat → Nat) : Nat → Bool
  | 0 => true
  | k + 1 => agS n p q th k && (decide (p k < n) && decide (th (p k) = q k))
theorem ag_mono {n : Nat} {p q th : Nat → Nat} {i : Nat} (h : agS n p q th i = false) : ∀ j, agS n p q th (i + j) = false
  | 0 => h
  | j + 1 => by
    rw [← Nat.add_assoc, agS, ag_mono h j, Bool.false_and]
theorem ag_no {n : Nat} {p q th : Nat → Nat} {i k : Nat} (h : agS n p q th (i + 1) = false) (hk : i < k) : agS n p q th k = false := by
  have := ag_mono h (k - (i + 1))
  rw [show i + 1 + (k - (i + 1)) = k by omega] at this
  exact this
theorem pairs_of {b : Nat} {size msize : Int32} {p q P Q : Nat → Int32} (h : RPairs b size msize p q P Q) (hb : b ≤ 8) : ∃ k x y, k ≤ 6 ∧ size = nI k ∧ msize = nI k ∧ (∀ i, i < k → x i < 6 ∧ y i < 2 ^ 31) ∧ holds k x p ∧ holds k x P ∧ holds k y q ∧ holds k y Q := by
  obtain ⟨k, h1, h2, h3, h4⟩ := h
  refine ⟨k, fun i => (p i).toNatClampNeg, fun i => (q i).toNatClampNeg, h1, h2, h3, fun i hi => ?_, fun i hi => ?_, fun i hi => ?_, fun i hi => ?_, fun i hi => ?_⟩
  · obtain ⟨x, y, a1, a2, a3, a4, a5, a6⟩ := h4 i hi
    show (p i).toNatClampNeg < 6 ∧ (q i).toNatClampNeg < 2 ^ 31
    rw [a3, cl (by omega), a5, cl (by omega)]
    exact ⟨a1, by omega⟩
  · obtain ⟨x, y, a1, a2, a3, a4, a5, a6⟩ := h4 i hi
    show p i = nI (p i).toNatClampNeg
    rw [a3, cl (by omega)]
  · obtain ⟨x, y, a1, a2, a3, a4, a5, a6⟩ := h4 i hi
    show P i = nI (p i).toNatClampNeg
    rw [a3, cl (by omega), a4]
  · obtain ⟨x, y, a1, a2, a3, a4, a5, a6⟩ := h4 i hi
    show q i = nI (q i).toNatClampNeg
    rw [a5, cl (by omega)]
  · obtain ⟨x, y, a1, a2, a3, a4, a5, a6⟩ := h4 i hi
    show Q i = nI (q i).toNatClampNeg
    rw [a5, cl (by omega), a6]
theorem runS_th {c : MC} {n : Nat} (hc : wfC c) : ∀ (j k : Nat) (w : Nat → Nat) (m : MM) (th : Nat → Nat) (ho : Nat), k + j = n → wfM c m → good c n k w m → (∀ i, th i < 8) → ∀ i, (runS c n j k w m th ho).2.2.1 i < 8
  | 0, _, _, _, _, _, _, _, _, h => h
  | j + 1, k, w, m, th, ho, h1, hm, hg, h => by
    have hwk := hg.1 k (Nat.le_refl _) (by omega)
    have hm2 := leadS_wf hc hm hwk.1 hwk.2
    unfold runS
    refine runS_th hc j (k + 1) _ _ _ _ (by omega) hm2 (wn_good (by omega) hg) (fun i => ?_)
    unfold updN
    split
    · have := hm2.1
      have := hc.1
      omega
    · exact h i
section AG
variable {N k n : Nat} {p q th : Nat → Nat}
theorem agree_c {as co en : Nat → Int32} (hk : k ≤ 6) (hn : n ≤ 6) (hp : ∀ i, i < k → p i < 6 ∧ q i < 2 ^ 31) (ha : holds k p as) (hb : holds k q co) (hth : ∀ i, th i < 8) (hen : holds n th en) : ∀ (j i fu : Nat), i + j = k → j < fu → agS n p q th i = true → fX7_agreeWith_b2 N (nI k) as co (nI n) en fu (nI i) = some (bI (agS n p q th k)) := by
  intro j
  induction j with
  | zero =>
    intro i fu h1 h2 h3
    obtain ⟨fu, rfl⟩ : ∃ j, fu = j + 1 := ⟨fu - 1, by omega⟩
    have e : i = k := by omega
    subst e
    rw [fX7_agreeWith_b2, if_pos (nI_le (Nat.le_refl _) (by omega)), h3]
    rfl
  | succ j ih =>
    intro i fu h1 h2 h3
    obtain ⟨fu, rfl⟩ : ∃ j, fu = j + 1 := ⟨fu - 1, by omega⟩
    obtain ⟨p1, p2⟩ := hp i (by omega)
    have e1 : agS n p q th (i + 1) = (decide (p i < n) && decide (th (p i) = q i)) := by rw [agS, h3, Bool.true_and]
    rw [fX7_agreeWith_b2, if_neg (dj (by omega) (by omega)), gi_ok (by omega) (by omega), cl (show i < 2 ^ 31 by omega), ha i (by omega), hb i (by omega)]
    by_cases q1 : p i < n
    · have ht := hth (p i)
      rw [if_neg (dj q1 (by omega)), gi_ok (by omega) (by omega), gi_ok (by omega) (by omega), gi_ok (by omega) (by omega), cl (show p i < 2 ^ 31 by omega), hen (p i) q1]
      by_cases q2 : th (p i) = q i
      · rw [if_pos (congrArg nI q2), nI_1]
        exact ih (i + 1) fu (by omega) (by omega) (by rw [e1]; simp [q1, q2])
      · rw [if_neg (fun z => q2 ((nI_eq (by omega) p2).mp z)), ag_no (i := i) (by rw [e1]; simp [q2]) (by omega)]
        rfl
    · rw [if_pos (nI_le (by omega) (by omega)), ag_no (i := i) (by rw [e1]; simp [q1]) (by omega)]
      rfl
theorem agree_m {as co en : Nat → Int32} (hk : k ≤ 6) (hn : n ≤ 6) (hp : ∀ i, i < k → p i < 6 ∧ q i < 2 ^ 31) (ha : holds k p as) (hb : holds k q co) (hth : ∀ i, th i < 8) (hen : holds n th en) : ∀ (j i fu : Nat), i + j = k → j < fu → fX10_isSo_b4 N (nI n) (nI k) en as co fu (bI (agS n p q th i)) (nI i) = some (bI (agS n p q th k)) := by
  intro j
  induction j with
  | zero =>
    intro i fu h1 h2
    obtain ⟨fu, rfl⟩ : ∃ j, fu = j + 1 := ⟨fu - 1, by omega⟩
    have e : i = k := by omega
    subst e
    rw [fX10_isSo_b4, if_pos (nI_le (Nat.le_refl _) (by omega)), gc_ok (by cases agS n p q th i <;> decide)]
  | succ j ih =>
    intro i fu h1 h2
    obtain ⟨fu, rfl⟩ : ∃ j, fu = j + 1 := ⟨fu - 1, by omega⟩
    obtain ⟨p1, p2⟩ := hp i (by omega)
    have ih2 := ih (i + 1) fu (by omega) (by omega)
    rw [fX10_isSo_b4, if_neg (dj (by omega) (by omega))]
    unfold fX10_isSo_b53 fX10_isSo_b54
    rw [nI_1]
    cases h3 : agS n p q th i with
    | false =>
      have e1 : agS n p q th (i + 1) = false := by rw [agS, h3, Bool.false_and]
      rw [e1] at ih2
      rw [if_pos (show bI false = 0 from rfl)]
      exact ih2
    | true =>
      have e1 : agS n p q th (i + 1) = (decide (p i < n) && decide (th (p i) = q i)) := by rw [agS, h3, Bool.true_and]
      rw [if_neg (show ¬ bI true = 0 by decide), gi_ok (by omega) (by omega), cl (show i < 2 ^ 31 by omega), ha i (by omega), hb i (by omega)]
      by_cases q1 : p i < n
      · have ht := hth (p i)
        rw [if_neg (dj q1 (by omega)), gi_ok (by omega) (by omega), gi_ok (by omega) (by omega), gi_ok (by omega) (by omega), cl (show p i < 2 ^ 31 by omega), hen (p i) q1]
        by_cases q2 : th (p i) = q i
        · rw [if_pos (congrArg nI q2)]
          rw [e1, decide_eq_true q1, decide_eq_true q2] at ih2
          exact ih2
        · rw [if_neg (fun z => q2 ((nI_eq (by omega) p2).mp z))]
          rw [e1, decide_eq_false q2, Bool.and_false] at ih2
          exact ih2
      · rw [if_pos (nI_le (by omega) (by omega))]
        rw [e1, decide_eq_false q1, Bool.false_and] at ih2
        exact ih2
end AG
/-! who surely leads -/
def srep (U : Nat) (x : Int32) : Prop := (U = 0 ∧ x = (-9 : Int32)) ∨ (∃ l, l < 6 ∧ U = 2 ^ l ∧ x = nI l) ∨ (U ≠ 0 ∧ (∀ l, l < 6 → U ≠ 2 ^ l) ∧ x = (-5 : Int32))
theorem pw_ne0 (l : Nat) : 2 ^ l ≠ 0 := Nat.ne_of_gt (Nat.pow_pos (by omega))
theorem pw_inj {a b : Nat} (h : 2 ^ a = 2 ^ b) : a = b := by
  have h1 : (2 ^ a).testBit b = true := by rw [h, tb_pow]; simp
  rw [tb_pow] at h1
  simpa using h1
theorem srep_fun {U : Nat} {x y : Int32} (h : srep U x) (g : srep U y) : x = y := by
  rcases h with ⟨h1, h2⟩ | ⟨l, h0, h1, h2⟩ | ⟨h0, h1, h2⟩
  · rcases g with ⟨g1, g2⟩ | ⟨l', g0, g1, g2⟩ | ⟨g0, g1, g2⟩
    · rw [h2, g2]
    · exact absurd (g1.symm.trans h1) (pw_ne0 _)
    · exact absurd h1 g0
  · rcases g with ⟨g1, g2⟩ | ⟨l', g0, g1, g2⟩ | ⟨g0, g1, g2⟩
    · exact absurd (h1.symm.trans g1) (pw_ne0 _)
    · rw [h2, g2, pw_inj (h1.symm.trans g1)]
    · exact absurd h1 (g1 l h0)
  · rcases g with ⟨g1, g2⟩ | ⟨l', g0, g1, g2⟩ | ⟨g0, g1, g2⟩
    · exact absurd g1 h0
    · exact absurd g1 (h1 l' g0)
    · rw [h2, g2]
theorem two_bits : ∀ a, a < 6 → ∀ b, b < 6 → a ≠ b → ∀ d, d < 6 → 2 ^ a ||| 2 ^ b ≠ 2 ^ d := by decide +kernel
theorem more_bits0 : ∀ U, U < 64 → ∀ l, l < 6 → ∀ d, d < 6 → U ||| 2 ^ l = 2 ^ d → U = 0 ∨ U = 2 ^ d := by decide +kernel
theorem more_bits (U : Nat) (hU : U < 64) (l : Nat) (hl : l < 6) (h0 : U ≠ 0) (h1 : ∀ d, d < 6 → U ≠ 2 ^ d) (d : Nat) (hd : d < 6) : U ||| 2 ^ l ≠ 2 ^ d := fun z => by
  rcases more_bits0 U hU l hl d hd z with w | w
  · exact h0 w
  · exact h1 d hd w
theorem srep_next {N U l : Nat} {x : Int32} (hU : U < 64) (hl : l < 6) (h : srep U x) : ∃ y, fX9_agreed N x (nI l) = some y ∧ srep (U ||| 2 ^ l) y ∧ U ||| 2 ^ l < 64 := by
  have hlt : U ||| 2 ^ l < 64 := or_lt (k := 6) hU (Nat.pow_lt_pow_right (by omega) hl)
  unfold fX9_agreed
  rcases h with ⟨h1, h2⟩ | ⟨l', h0, h1, h2⟩ | ⟨h0, h1, h2⟩
  · rw [if_pos h2]
    refine ⟨_, rfl, Or.inr (Or.inl ⟨l, hl, ?_, rfl⟩), hlt⟩
    rw [h1, Nat.zero_or]
  · rw [if_neg (by rw [h2]; exact nI_n9 (by omega))]
    by_cases q : l' = l
    · subst q
      rw [if_pos h2]
      refine ⟨_, rfl, Or.inr (Or.inl ⟨l', hl, ?_, rfl⟩), hlt⟩
      rw [h1, Nat.or_self]
    · rw [if_neg (fun z => q ((nI_eq (by omega) (by omega)).mp (h2.symm.trans z)))]
      refine ⟨_, rfl, Or.inr (Or.inr ⟨?_, ?_, rfl⟩), hlt⟩
      · have := Nat.left_le_or (n := U) (m := 2 ^ l)
        have := pw_ne0 l'
        omega
      · rw [h1]
        exact two_bits l' h0 l hl q
  · rw [if_neg (by rw [h2]; decide), if_neg (by rw [h2]; exact fun z => nI_neg (a := l) (by omega) (-5 : Int32) (by decide) z.symm)]
    refine ⟨_, rfl, Or.inr (Or.inr ⟨?_, more_bits U hU l hl h0 h1, rfl⟩), hlt⟩
    have := Nat.left_le_or (n := U) (m := 2 ^ l)
    omega
/-- by one more ROW: how many fit, and who leads then (bits) -/
def f1 (c : MC) (n : Nat) (m : MM) (p q : Nat → Nat) (K : Nat) (y : Option Nat) (a : Nat × Nat) (t : Nat → Nat) : Nat × Nat := if agS n p q (rr c n m t).2.2.1 K = true then (a.1 + 1, match y with
  | none => a.2
  | some j => a.2 ||| 2 ^ ((rr c n m t).1 j)) else a
/-- whom it is asked about -/
def asked (n : Nat) (x1 : Int32) (y : Option Nat) : Prop := (y = none ∧ (x1 < 0 ∨ (¬ x1 < 0 ∧ nI n ≤ x1))) ∨ ∃ j, y = some j ∧ j < n ∧ x1 = nI j
theorem rr_th {c : MC} {n : Nat} {m : MM} {t : Nat → Nat} (hc : wfC c) (hm : wfM c m) (hg : good c n 0 t m) (i : Nat) : (rr c n m t).2.2.1 i < 8 := runS_th hc n 0 t m _ 0 (by omega) hm hg (fun _ => by omega) i
section FC
variable {N n : Nat} {c : MC} {m : MM} {cor str lea : Int32} {fi se ho hoM fe : Nat → Int32} {far : Nat → Nat → Int32} {z1 z2 z3 z4 z5 z6 x1 : Int32} {as co : Nat → Int32} {K : Nat} {p q : Nat → Nat} {y : Option Nat}
theorem cfits_loop (hN : 1000 ≤ N) (hn : n ≤ 6) (hc : wfC c) (hcc : CCity c cor str lea fi se ho hoM fe far) (hm : wfM c m) (hmm : CMarch m z1 z2 z3 z4 z5 z6) (hK : K ≤ 6) (hp : ∀ i, i < K → p i < 6 ∧ q i < 2 ^ 31) (ha : holds K p as) (hb : holds K q co) (hy : asked n x1 y) : ∀ (k i fu : Nat) (t : Nat → Nat) (a : Nat × Nat) (homes : Int32) (told leading ended : Nat → Int32) (q1 q2 q3 q4 q5 q6 x3 : Int32), i + k = 720 → k < fu → ends n k t = true → (∀ x, t x < 2 ^ 31) → good c n 0 t m → holds n t told → srep a.2 x3 → a.2 < 64 → (y = none → a.2 = 0) →
    ∃ (w1 : Int32) (w2 w3 w4 : Nat → Int32) (w5 w6 w7 w8 w9 w10 r3 : Int32), fX9_fits_b36 N str lea fi se ho hoM fe far z1 z2 z3 z4 z5 z6 (nI K) as co x1 fu (nI n) homes told leading ended q1 q2 q3 q4 q5 q6 (nI a.1) x3 (nI i) = some ((if x1 = (-1 : Int32) then nI ((rowsL n k t).foldl (f1 c n m p q K y) a).1 else r3), nI n, w1, w2, w3, w4, w5, w6, w7, w8, w9, w10) ∧ srep ((rowsL n k t).foldl (f1 c n m p q K y) a).2 r3 := by
  intro k
  induction k with
  | zero => intro i fu t a homes told leading ended q1 q2 q3 q4 q5 q6 x3 h1 h2 h3; simp [ends] at h3
  | succ k ih =>
    intro i fu t a homes told leading ended q1 q2 q3 q4 q5 q6 x3 h1 h2 h3 ht31 hg hto hs h64 h0
    obtain ⟨fu, rfl⟩ : ∃ j, fu = j + 1 := ⟨fu - 1, by omega⟩
    obtain ⟨r1, r2, r3, r4, r5, r6, r7, r8, r9⟩ := rr_ok hn hc hm hg
    obtain ⟨ld', en', T', w1, w2, w3, w4⟩ := walk_ok (N := N) (by omega) hn hc hcc hm hg hmm hto (y0 := homes) (y1 := q1) (y2 := q2) (y3 := q3) (y4 := q4) (y5 := q5) (y6 := q6) (ld := leading) (en := ended)
    have w3 : holds n (rr c n m t).1 ld' := w3
    have w4 : holds n (rr c n m t).2.2.1 en' := w4
    obtain ⟨rn, bn, n1, n2⟩ := next_c (N := N) (by omega) hn ht31 hto
    have hag : fX7_agreeWith N (nI K) as co (nI n) en' = some (bI (agS n p q (rr c n m t).2.2.1 K)) := agree_c (N := N) hK hn hp ha hb (rr_th hc hm hg) w4 K 0 N (by omega) (by omega) rfl
    rw [fX9_fits_b36, if_neg (by rw [show (720 : Int32) = nI 720 from rfl]; exact dj (by omega) (by omega)), w1, Option.bind_some]
    dsimp only
    rw [hag, Option.bind_some]
    have go : ∀ (a' : Nat × Nat) (x3' : Int32), f1 c n m p q K y a t = a' → srep a'.2 x3' → a'.2 < 64 → (y = none → a'.2 = 0) → ∀ (o1 o2 o3 o4 o5 o6 o7 : Int32), ∃ (w1 : Int32) (w2 w3 w4 : Nat → Int32) (w5 w6 w7 w8 w9 w10 r3 : Int32), fX9_fits_b89 N str lea fi se ho hoM fe far z1 z2 z3 z4 z5 z6 (nI K) as co x1 (fun t_row_size t_row_homes t_row_told t_row_leading t_row_ended t_row_march_at t_row_march_hour t_row_march_fines t_row_march_led t_row_march_taken t_row_march_shut x2 x3 x4 => fX9_fits_b36 N str lea fi se ho hoM fe far z1 z2 z3 z4 z5 z6 (nI K) as co x1 fu t_row_size t_row_homes t_row_told t_row_leading t_row_ended t_row_march_at t_row_march_hour t_row_march_fines t_row_march_led t_row_march_taken t_row_march_shut x2 x3 x4) (nI n) o1 told ld' en' o2 o3 o4 o5 o6 o7 (nI a'.1) x3' (nI i) = some ((if x1 = (-1 : Int32) then nI ((rowsL n (k + 1) t).foldl (f1 c n m p q K y) a).1 else r3), nI n, w1, w2, w3, w4, w5, w6, w7, w8, w9, w10) ∧ srep ((rowsL n (k + 1) t).foldl (f1 c n m p q K y) a).2 r3 := by
      intro a' x3' ea hs' h64' h0' o1 o2 o3 o4 o5 o6 o7
      unfold fX9_fits_b89
      rw [n1, Option.bind_some]
      unfold ends at h3
      rcases n2 with ⟨e1, rfl, -⟩ | ⟨t', e1, rfl, hto'⟩
      · have er : rowsL n (k + 1) t = [t] := by unfold rowsL; rw [e1]
        rw [er]
        dsimp only
        rw [if_pos rfl]
        unfold fX9_fits_b108
        refine ⟨o1, bn, ld', en', o2, o3, o4, o5, o6, o7, x3', ?_, ?_⟩
        · show _ = some ((if x1 = (-1 : Int32) then nI (f1 c n m p q K y a t).1 else x3'), _)
          rw [ea]
          by_cases z : x1 = (-1 : Int32)
          · rw [if_pos z, if_pos z]
          · rw [if_neg z, if_neg z]
        · show srep (f1 c n m p q K y a t).2 x3'
          rw [ea]
          exact hs'
      · dsimp only
        rw [if_neg (by decide), nI_1]
        rw [e1] at h3
        have er : rowsL n (k + 1) t = t :: rowsL n k t' := by rw [rowsL, e1]
        rw [er]
        obtain ⟨v1, v2, v3, v4, v5, v6, v7, v8, v9, v10, v11, b1, b2⟩ := ih (i + 1) fu t' a' o1 bn ld' en' o2 o3 o4 o5 o6 o7 x3' (by omega) (by omega) h3 (nx_lt e1 ht31) (nx_good e1 hg) hto' hs' h64' h0'
        refine ⟨v1, v2, v3, v4, v5, v6, v7, v8, v9, v10, v11, ?_, ?_⟩
        · show _ = some ((if x1 = (-1 : Int32) then nI ((rowsL n k t').foldl (f1 c n m p q K y) (f1 c n m p q K y a t)).1 else v11), _)
          rw [ea]
          exact b1
        · show srep ((rowsL n k t').foldl (f1 c n m p q K y) (f1 c n m p q K y a t)).2 v11
          rw [ea]
          exact b2
    cases e : agS n p q (rr c n m t).2.2.1 K with
    | false =>
      rw [if_pos (show bI false = 0 from rfl)]
      exact go a x3 (by unfold f1; rw [e]; rfl) hs h64 h0 _ _ _ _ _ _ _
    | true =>
      rw [if_neg (show ¬ bI true = 0 by decide), nI_1]
      rcases hy with ⟨rfl, hx⟩ | ⟨j, rfl, hj, rfl⟩
      · have hx3 : x3 = (-9 : Int32) := by
          rw [h0 rfl] at hs
          exact srep_fun hs (Or.inl ⟨rfl, rfl⟩)
        have hl : fX6_leaderAt N (nI n) ld' x1 = some (-9 : Int32) := by
          unfold fX6_leaderAt
          rcases hx with hx | ⟨hx, hx2⟩
          · rw [if_pos hx]
          · rw [if_neg hx, if_pos hx2]
        rw [hl, Option.bind_some]
        unfold fX9_agreed
        rw [if_pos hx3, Option.bind_some, ← hx3]
        exact go (a.1 + 1, a.2) x3 (by unfold f1; rw [e]; rfl) hs h64 h0 _ _ _ _ _ _ _
      · have hw := r8 j hj
        have hl : fX6_leaderAt N (nI n) ld' (nI j) = some (nI ((rr c n m t).1 j)) := by
          unfold fX6_leaderAt
          rw [if_neg (nI_pos (by omega)), if_neg (dj hj (by omega)), gi_ok (by omega) (by omega), cl (by omega), w3 j hj]
        obtain ⟨y3, s1, s2, s3⟩ := srep_next (N := N) h64 hw hs
        rw [hl, Option.bind_some, s1, Option.bind_some]
        exact go (a.1 + 1, a.2 ||| 2 ^ ((rr c n m t).1 j)) y3 (by unfold f1; rw [e]; rfl) s2 s3 (fun z => by cases z) _ _ _ _ _ _ _
end FC
