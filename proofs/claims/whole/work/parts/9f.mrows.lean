/-! what all ROWS tell, in the model -/
def andn (a b : Nat) : Nat := a &&& (b ^^^ 4294967295)
theorem andn_bit {a b i : Nat} (hi : i < 32) : (andn a b).testBit i = (a.testBit i && !(b.testBit i)) := by
  unfold andn
  rw [Nat.testBit_and, Nat.testBit_xor, show (4294967295 : Nat) = 2 ^ 32 - 1 by decide, Nat.testBit_two_pow_sub_one]
  simp [hi]
theorem andn_nI (a b : Nat) : nI a &&& (nI b ^^^ (-1 : Int32)) = nI (andn a b) := by
  rw [show (-1 : Int32) = nI 4294967295 from by decide, fa_xor, fa_and]
  rfl
def nev (S U v : Nat) : Prop := v < 2 ^ 12 ∧ ∀ i, i < 12 → v.testBit i = (decide (i < S) && !(U.testBit i))
theorem andn_lt {a b : Nat} (h : a < 2 ^ 12) : andn a b < 2 ^ 12 := Nat.lt_of_le_of_lt Nat.and_le_left h
theorem nev_next {S U v w : Nat} (h : nev S U v) : nev S (U ||| w) (andn v w) := by
  refine ⟨andn_lt h.1, fun i hi => ?_⟩
  rw [andn_bit (by omega), h.2 i hi, Nat.testBit_or]
  cases decide (i < S) <;> cases U.testBit i <;> cases w.testBit i <;> rfl
theorem nev_same {S U v w : Nat} (h : nev S U v) (h2 : nev S U w) : v = w := by
  apply Nat.eq_of_testBit_eq
  intro i
  by_cases hi : i < 12
  · rw [h.2 i hi, h2.2 i hi]
  · rw [tb_lt h.1 (by omega), tb_lt h2.1 (by omega)]
def mleI (l : Option Nat) : Int32 := match l with
  | none => (-9 : Int32)
  | some v => nI v
def mrepO (c : MC) (o : RO) (x2 x3 x4 x5 x6 x7 : Int32) : Prop :=
  (∃ v, x2 = nI v ∧ nev (mcS c) o.1 v) ∧ o.1 < 2 ^ 12 ∧ x3 = nI (if mcC c = 0 then 0 else o.2.1) ∧ o.2.1 < 2 ^ 8 ∧ x4 = nI o.2.2.1 ∧ o.2.2.1 ≤ 6 ∧ x5 = mleI o.2.2.2.1 ∧ (∀ v, o.2.2.2.1 = some v → v ≤ 270) ∧ x6 = nI o.2.2.2.2.1 ∧ o.2.2.2.2.1 ≤ 270 ∧ x7 = nI o.2.2.2.2.2 ∧ o.2.2.2.2.2 < 2 ^ 6
def rowsR (n : Nat) (x1 : Int32) (ho' x2 x3 x4 x5 x6 x7 : Int32) (tr' rw' wh' th' : Nat → Int32) : Option (Int32 × Int32 × Int32 × (Nat → Int32) × (Nat → Int32) × (Nat → Int32) × (Nat → Int32)) := if x1 = (0 : Int32) then some (x2, nI n, ho', tr', rw', wh', th') else (if x1 = (1 : Int32) then some (x3, nI n, ho', tr', rw', wh', th') else (if x1 = (2 : Int32) then some (x4, nI n, ho', tr', rw', wh', th') else (if x1 = (3 : Int32) then some (x5, nI n, ho', tr', rw', wh', th') else (if x1 = (4 : Int32) then some (x6, nI n, ho', tr', rw', wh', th') else some (x7, nI n, ho', tr', rw', wh', th')))))
section RO
variable {N n : Nat} {c : MC} {m : MM} {co st le en ti ho fe far now : Nat → Int32} {x1 : Int32}
section RK
variable {K44 : Int32 → Int32 → (Nat → Int32) → (Nat → Int32) → (Nat → Int32) → (Nat → Int32) → Int32 → Int32 → Int32 → Int32 → Int32 → Int32 → Int32 → Option (Int32 × Int32 × Int32 × (Nat → Int32) × (Nat → Int32) × (Nat → Int32) × (Nat → Int32))} {tried row who then' : Nat → Int32}
theorem rows146 {r hs x2 x3 x4 x7 : Int32} {h o5 : Nat} {y0 : Int32} (hh : h < 2 ^ 31) (ho5 : o5 < 2 ^ 31) : fX10_rows_b146 N co st en ti le ho fe far now x1 K44 r hs tried row who then' x2 x3 x4 (nI o5) x7 (nI h) y0 = fX10_rows_b162 N co st en ti le ho fe far now x1 K44 r hs tried row who then' x2 x3 x4 y0 x7 (nI (if o5 < h then h else o5)) := by
  unfold fX10_rows_b146
  by_cases q : o5 < h
  · rw [if_neg (nI_ge q hh), if_pos q]
  · rw [if_pos (nI_le (by omega) ho5), if_neg q]
theorem rows123 {r hs x2 x3 x7 y0 : Int32} {h o5 : Nat} {o4 : Option Nat} (hh : h ≤ 270) (ho5 : o5 < 2 ^ 31) (ho4 : ∀ v, o4 = some v → v ≤ 270) : fX10_rows_b123 N co st en ti le ho fe far now x1 K44 r hs tried row who then' x2 x3 (mleI o4) (nI o5) x7 (nI h) y0 = fX10_rows_b162 N co st en ti le ho fe far now x1 K44 r hs tried row who then' x2 x3 y0 (nI (minO o4 h)) x7 (nI (if o5 < h then h else o5)) := by
  unfold fX10_rows_b123 fX10_rows_b139
  rw [rows146 (by omega) ho5, rows146 (by omega) ho5]
  cases o4 with
  | none => rw [if_pos (show mleI none = (-9 : Int32) from rfl)]; rfl
  | some v =>
    have := ho4 v rfl
    rw [show mleI (some v) = nI v from rfl, if_neg (nI_n9 (by omega))]
    show _ = fX10_rows_b162 N co st en ti le ho fe far now x1 K44 r hs tried row who then' x2 x3 y0 (nI (if h < v then h else v)) x7 _
    by_cases q : h < v
    · rw [if_neg (nI_ge q (by omega)), if_pos q]
    · rw [if_pos (nI_le (by omega) (by omega)), if_neg q]
theorem rows103 {r x2 x7 y0 y1 : Int32} {H h o3 o5 : Nat} {o4 : Option Nat} (hH : H ≤ 6) (ho3 : o3 ≤ 6) (hh : h ≤ 270) (ho5 : o5 < 2 ^ 31) (ho4 : ∀ v, o4 = some v → v ≤ 270) : fX10_rows_b103 N co st en ti le ho fe far now x1 K44 r (nI H) tried row who then' x2 (nI o3) (mleI o4) (nI o5) x7 (nI h) y0 y1 = fX10_rows_b162 N co st en ti le ho fe far now x1 K44 r (nI H) tried row who then' x2 (y1 ||| y0) (nI (if o3 < H then H else o3)) (nI (minO o4 h)) x7 (nI (if o5 < h then h else o5)) := by
  unfold fX10_rows_b103
  rw [rows123 hh ho5 ho4, rows123 hh ho5 ho4]
  by_cases q : o3 < H
  · rw [if_neg (nI_ge q (by omega)), if_pos q]
  · rw [if_pos (nI_le (by omega) (by omega)), if_neg q]
theorem rows162 {hs x2 x3 x4 x5 y0 : Int32} {o6 : Nat} {e : MM} {w : Nat → Nat} (hn : n ≤ 6) (hc : wfC c) (hco : co 0 = nI (mcC c)) (hp : MMarch e tried) (he : mmA e < 8) (hw : holds n w who) (hw6 : ∀ i, i < n → w i < 6) : fX10_rows_b162 N co st en ti le ho fe far now x1 K44 (nI n) hs tried row who then' x2 x3 x4 x5 (nI o6) y0 = (fX10_nextRow N (nI n) row).bind fun u21 => K44 (nI n) hs tried u21.2 who then' x2 x3 x4 x5 y0 (nI (orO o6 (if atDoor c e = true ∧ 0 < n then some (w (n - 1)) else none))) u21.1 := by
  unfold fX10_rows_b162 fX10_rows_b196 fX10_rows_b197
  rw [mdoor_ok (N := N) hc hco hp he, Option.bind_some, show nI o6 ||| (0 : Int32) = nI o6 from by rw [show (0 : Int32) = nI 0 from rfl, fa_or, Nat.or_zero]]
  cases hd : atDoor c e with
  | false =>
    rw [if_pos (show bI false = 0 from rfl), if_neg (fun z => by cases z.1)]
    rfl
  | true =>
    rw [if_neg (show ¬ bI true = 0 by decide)]
    by_cases q : n = 0
    · subst q
      rw [if_pos (show nI 0 ≤ 0 by decide), if_neg (fun z => by have := z.2; omega)]
      rfl
    · have h6 := hw6 (n - 1) (by omega)
      rw [if_neg (nI_nle (by omega) (by omega)), show nI n - (1 : Int32) = nI (n - 1) from pk_sub (a := n) (b := 1) (by omega), gi_ok (by omega) (by omega), cl (by omega), hw (n - 1) (by omega), one_shl (by omega), fa_or, if_pos ⟨rfl, by omega⟩]
      rfl
end RK
theorem rows_loop (hN : 1000 ≤ N) (hn : n ≤ 6) (hc : wfC c) (hcc : MCity c co st le en ti ho fe far) (hm : wfM c m) (hmm : MMarch m now) : ∀ (k fu : Nat) (t : Nat → Nat) (o : RO) (homes x2 x3 x4 x5 x6 x7 : Int32) (tried row who then' : Nat → Int32), k + 1 < fu → ends n k t = true → (∀ x, t x < 2 ^ 31) → good c n 0 t m → holds n t row → mrepO c o x2 x3 x4 x5 x6 x7 →
    ∃ (ho' y2 y3 y4 y5 y6 y7 : Int32) (tr' rw' wh' th' : Nat → Int32), fX10_rows_b44 N co st en ti le ho fe far now x1 fu (nI n) homes tried row who then' x2 x3 x4 x5 x6 x7 (1 : Int32) = rowsR n x1 ho' y2 y3 y4 y5 y6 y7 tr' rw' wh' th' ∧ mrepO c ((rowsL n k t).foldl (o1 c n m) o) y2 y3 y4 y5 y6 y7 := by
  intro k
  induction k with
  | zero => intro fu t o homes x2 x3 x4 x5 x6 x7 tried row who then' h1 h3; simp [ends] at h3
  | succ k ih =>
    intro fu t o homes x2 x3 x4 x5 x6 x7 tried row who then' h1 h3 ht31 hg hto hb
    obtain ⟨fu, rfl⟩ : ∃ j, fu = j + 1 := ⟨fu - 1, by omega⟩
    obtain ⟨r1, r2, r3, r4, r5, r6, r7, r8, r9⟩ := rr_ok hn hc hm hg
    obtain ⟨tr', wh', th', w1, w2, w3, w4⟩ := run_ok (N := N) (x := homes) (tried := tried) (who := who) (then' := then') (by omega) hn hc hcc hm hg hmm hto
    have w2 : MMarch (rr c n m t).2.1 tr' := w2
    have w3 : holds n (rr c n m t).1 wh' := w3
    obtain ⟨rn, bn, n1, n2⟩ := next_m (N := N) (by omega) hn ht31 hto
    have hwl : wlk (rr c n m t).2.1 < 2 ^ 12 := wlk_lt _ 12
    have hC := hc.1
    obtain ⟨p1, p2, p3, p4, p5, p6, p7, p8, p9, p10, p11, p12⟩ := hb
    obtain ⟨v, rfl, hv⟩ := p1
    subst p3
    subst p5
    subst p7
    subst p9
    subst p11
    have rest : ∀ (y3 : Int32), y3 = nI (if mcC c = 0 then 0 else o.2.1 ||| 2 ^ (mmA (rr c n m t).2.1)) → ∃ (ho' y2 y3' y4 y5 y6 y7 : Int32) (tr'' rw' wh'' th'' : Nat → Int32), ((fX10_nextRow N (nI n) row).bind fun u21 => (fun t_rowLong t_homes t_tried t_row t_who t_then x2 x3 x4 x5 x6 x7 x8 => fX10_rows_b44 N co st en ti le ho fe far now x1 fu t_rowLong t_homes t_tried t_row t_who t_then x2 x3 x4 x5 x6 x7 x8) (nI n) (nI (rr c n m t).2.2.2) tr' u21.2 wh' th' (nI (andn v (wlk (rr c n m t).2.1))) y3 (nI (if o.2.2.1 < (rr c n m t).2.2.2 then (rr c n m t).2.2.2 else o.2.2.1)) (nI (minO o.2.2.2.1 (mmH (rr c n m t).2.1 - mmH m))) (nI (if o.2.2.2.2.1 < mmH (rr c n m t).2.1 - mmH m then mmH (rr c n m t).2.1 - mmH m else o.2.2.2.2.1)) (nI (orO o.2.2.2.2.2 (if atDoor c (rr c n m t).2.1 = true ∧ 0 < n then some ((rr c n m t).1 (n - 1)) else none))) u21.1) = rowsR n x1 ho' y2 y3' y4 y5 y6 y7 tr'' rw' wh'' th'' ∧ mrepO c ((rowsL n (k + 1) t).foldl (o1 c n m) o) y2 y3' y4 y5 y6 y7 := by
      intro y3 hy3
      have hb' : mrepO c (o1 c n m o t) (nI (andn v (wlk (rr c n m t).2.1))) y3 (nI (if o.2.2.1 < (rr c n m t).2.2.2 then (rr c n m t).2.2.2 else o.2.2.1)) (nI (minO o.2.2.2.1 (mmH (rr c n m t).2.1 - mmH m))) (nI (if o.2.2.2.2.1 < mmH (rr c n m t).2.1 - mmH m then mmH (rr c n m t).2.1 - mmH m else o.2.2.2.2.1)) (nI (orO o.2.2.2.2.2 (if atDoor c (rr c n m t).2.1 = true ∧ 0 < n then some ((rr c n m t).1 (n - 1)) else none))) := by
        refine ⟨⟨_, rfl, nev_next hv⟩, or_lt p2 hwl, hy3, or_lt p4 (Nat.pow_lt_pow_right (by omega) r2), rfl, ?_, rfl, ?_, rfl, ?_, rfl, ?_⟩
        · show (if o.2.2.1 < (rr c n m t).2.2.2 then (rr c n m t).2.2.2 else o.2.2.1) ≤ 6
          split <;> omega
        · intro z hz
          have hz : some (minO o.2.2.2.1 (mmH (rr c n m t).2.1 - mmH m)) = some z := hz
          cases hz
          cases e : o.2.2.2.1 with
          | none => show mmH (rr c n m t).2.1 - mmH m ≤ 270; omega
          | some z =>
            have := p8 z e
            show (if _ then _ else _) ≤ 270
            split <;> omega
        · show (if o.2.2.2.2.1 < mmH (rr c n m t).2.1 - mmH m then mmH (rr c n m t).2.1 - mmH m else o.2.2.2.2.1) ≤ 270
          split <;> omega
        · show orO o.2.2.2.2.2 (if atDoor c (rr c n m t).2.1 = true ∧ 0 < n then some ((rr c n m t).1 (n - 1)) else none) < 2 ^ 6
          split
          · rename_i z
            exact or_lt p12 (Nat.pow_lt_pow_right (by omega) (r8 _ (by omega)))
          · exact p12
      rw [n1, Option.bind_some]
      unfold ends at h3
      rcases n2 with ⟨e1, rfl, rfl⟩ | ⟨t', e1, rfl, hto'⟩
      · have er : rowsL n (k + 1) t = [t] := by unfold rowsL; rw [e1]
        rw [er]
        obtain ⟨fu, rfl⟩ : ∃ j, fu = j + 1 := ⟨fu - 1, by omega⟩
        dsimp only
        rw [fX10_rows_b44, if_pos rfl]
        exact ⟨_, _, _, _, _, _, _, _, _, _, _, rfl, hb'⟩
      · rw [e1] at h3
        have er : rowsL n (k + 1) t = t :: rowsL n k t' := by rw [rowsL, e1]
        rw [er]
        exact ih fu t' _ _ _ _ _ _ _ _ _ _ _ _ (by omega) h3 (nx_lt e1 ht31) (nx_good e1 hg) hto' hb'
    rw [fX10_rows_b44, if_neg (by decide), w1, Option.bind_some]
    dsimp only
    rw [walked_m (N := N) (c := c) (m := (rr c n m t).2.1) (by omega) hc.2.1 hcc.2.1 w2 (by omega) (by omega) r1.2.2.2.1 r1.2.2.2.2.1, Option.bind_some, cl0, cl1, hcc.1, andn_nI, w2.1, w2.2.1, hmm.2.1, pk_sub r3]
    rw [rows103 r7 p6 (by omega) (by omega) p8, rows103 r7 p6 (by omega) (by omega) p8, rows162 (e := (rr c n m t).2.1) (w := (rr c n m t).1) hn hc hcc.1 w2 r2 w3 r8, rows162 (e := (rr c n m t).2.1) (w := (rr c n m t).1) hn hc hcc.1 w2 r2 w3 r8]
    by_cases q : mcC c = 0
    · rw [if_pos (by rw [q]; rfl)]
      exact rest _ (by rw [if_pos q, if_pos q]; rfl)
    · rw [if_neg (nI_ne0 (by omega) (by omega)), one_shl (by omega)]
      exact rest _ (by rw [if_neg q, if_neg q, fa_or])
end RO
