/-! an ITEM behind its letter, in both -/
def rowOk (N K : Nat) (by' tx : Nat → Int32) (a' : Nat) (at3 st3 so3 va3 f3 : Int32) : Prop := ∃ at2 st2 so2 va2, so3 = (2 : Int32) ∧ f3 = (-9 : Int32) ∧ a' ≤ K ∧ fX10_due N (nI K) at3 st3 so3 va3 (-9 : Int32) tx (1 : Int32) = some (va3, at2, st2, so2, va2, (-9 : Int32)) ∧ tokR N K by' a' at2 st2 so2 va2
def rowNo (s : Nat) (st3 so3 f3 : Int32) : Prop := f3 = nI s ∨ (f3 = (-9 : Int32) ∧ ¬ so3 = (2 : Int32) ∧ st3 = nI s)
theorem hasC_yes {N C x : Nat} (h : x < C) (hC : C ≤ 8) : fX0_hasCorner N (nI C) (nI x) = some 1 := by
  unfold fX0_hasCorner
  rw [if_neg (nI_pos (by omega)), if_neg (dj h (by omega))]
theorem addStreet_ok {N C S a b t : Nat} {fi se ho : Nat → Int32} (hC : C ≤ 8) (hS : S < 12) (ha : a < C) (hb : b < C) : fX0_addStreet N (nI C) (nI S) fi se ho (nI a) (nI b) (nI t) = some (nI (S + 1), upd fi S (nI a), upd se S (nI b), upd ho S (nI t)) := by
  unfold fX0_addStreet
  rw [if_neg (by rw [show (12 : Int32) = nI 12 from rfl]; exact dj hS (by omega)), hasC_yes ha hC, Option.bind_some, if_neg (by decide), hasC_yes hb hC, Option.bind_some, if_neg (by decide), gi_ok hS (by omega), gi_ok hS (by omega), gi_ok hS (by omega), cl (show S < 2 ^ 31 by omega), nI_1]
theorem addLeader_ok {N C S a t : Nat} {hm fe : Nat → Int32} (hC : C ≤ 8) (hS : S < 6) (ha : a < C) : fX0_addLeader N (nI C) (nI S) hm fe (nI a) (nI t) = some (nI (S + 1), upd hm S (nI a), upd fe S (nI t)) := by
  unfold fX0_addLeader
  rw [if_neg (by rw [show (6 : Int32) = nI 6 from rfl]; exact dj hS (by omega)), hasC_yes ha hC, Option.bind_some, if_neg (by decide), gi_ok hS (by omega), gi_ok hS (by omega), cl (show S < 2 ^ 31 by omega), nI_1]
section RW
variable {N K : Nat} {B : Nat → Nat} {by' tx co st le en ti ho fe : Nat → Int32} {a : Nat} {at' sta so va : Int32}
theorem row_corners {cor : Int32} (hN : 1000 ≤ N) (hK : K ≤ 150) (hB : ∀ i, i < K → B i < 256) (hb : holds K B by') (ht : mbytes K B tx) (h : tokR N K by' a at' sta so va) : ∃ at3 st3 so3 va3 f3 v, fX10_readRow N (nI K) at' sta so va (-9 : Int32) tx co st en ti le ho fe (99 : Int32) = some (at3, st3, so3, va3, f3, upd co 1 v, st, en, ti, le, ho, fe) ∧
    ((∃ n a', 1 ≤ n ∧ n ≤ 8 ∧ v = nI n ∧ (∀ x y z, ∃ p t w, fX8_readCorners N (nI K) (nI a) x y z by' cor = some ((1 : Int32), nI a', p, t, w, nI n)) ∧ rowOk N K by' tx a' at3 st3 so3 va3 f3) ∨
    ∃ s, s ≤ K ∧ (∀ x y z, ∃ p t w r, fX8_readCorners N (nI K) (nI a) x y z by' cor = some ((0 : Int32), p, nI s, t, w, r)) ∧ rowNo s st3 so3 f3) := by
  obtain ⟨s, hs, rfl, h1⟩ := num_pair (N := N) (lo := 1) (hi := 8) hN hK hB hb ht (by omega) (by omega) h
  unfold fX10_readRow
  rw [if_pos rfl]
  rcases h1 with ⟨v, a', at2, st2, so2, va2, v1, v2, c1, m1, ha', -, t2, -, -⟩ | ⟨c1, m1, -⟩
  · have m1 : fX10_number N (nI K) at' (nI s) so va (-9 : Int32) tx (1 : Int32) (8 : Int32) = _ := m1
    rw [m1, Option.bind_some]
    refine ⟨at2, st2, so2, va2, (-9 : Int32), nI v, rfl, ?_⟩
    obtain ⟨s2, hs2, rfl, h2⟩ := stop_pair (N := N) hN hK hB hb ht t2
    rcases h2 with ⟨a2, at3, st3, so3, va3, c2, rfl, m2, ha2, t3⟩ | ⟨n2, c2⟩
    · refine Or.inl ⟨v, a2, v1, v2, rfl, fun x y z => ?_, at3, st3, so3, va3, rfl, rfl, ha2, m2, t3⟩
      obtain ⟨w, c2⟩ := c2 (nI s) (2 : Int32) (nI v)
      refine ⟨nI s2, (3 : Int32), w, ?_⟩
      unfold fX8_readCorners
      rw [show fX8_readNumber N (nI K) (nI a) x y z by' (1 : Int32) (8 : Int32) = _ from c1 x y z, Option.bind_some]
      dsimp only
      rw [if_neg (by decide), c2, Option.bind_some, gc_ok (by dsimp only; decide)]
    · refine Or.inr ⟨s2, hs2, fun x y z => ?_, Or.inr ⟨rfl, n2, rfl⟩⟩
      obtain ⟨p, t, w, c2⟩ := c2 (nI s) (2 : Int32) (nI v)
      refine ⟨p, t, w, nI v, ?_⟩
      unfold fX8_readCorners
      rw [show fX8_readNumber N (nI K) (nI a) x y z by' (1 : Int32) (8 : Int32) = _ from c1 x y z, Option.bind_some]
      dsimp only
      rw [if_neg (by decide), c2, Option.bind_some, gc_ok (by dsimp only; decide)]
  · have m1 : fX10_number N (nI K) at' (nI s) so va (-9 : Int32) tx (1 : Int32) (8 : Int32) = _ := m1
    rw [m1, Option.bind_some]
    refine ⟨at', nI s, so, va, nI s, va, rfl, Or.inr ⟨s, hs, fun x y z => ?_, Or.inl rfl⟩⟩
    obtain ⟨p, t, w, c1⟩ := c1 x y z
    refine ⟨p, t, w, cor, ?_⟩
    unfold fX8_readCorners
    rw [show fX8_readNumber N (nI K) (nI a) x y z by' (1 : Int32) (8 : Int32) = _ from c1, Option.bind_some]
    dsimp only
    rw [if_pos rfl]
theorem row_leader {C L : Nat} {hm fe' : Nat → Int32} (hN : 1000 ≤ N) (hK : K ≤ 150) (hB : ∀ i, i < K → B i < 256) (hb : holds K B by') (ht : mbytes K B tx) (h : tokR N K by' a at' sta so va) (hC : 1 ≤ C) (hC8 : C ≤ 8) (hL : L < 6) (hco : co 1 = nI C) (hle : le 1 = nI L) : ∃ at3 st3 so3 va3 f3 w1 w2, fX10_readRow N (nI K) at' sta so va (-9 : Int32) tx co st en ti le ho fe (108 : Int32) = some (at3, st3, so3, va3, f3, co, st, en, ti, upd le 1 (nI (L + 1)), upd ho (6 + L) w1, upd fe (6 + L) w2) ∧
    ((∃ x1 x2 a', x1 < C ∧ 1 ≤ x2 ∧ x2 ≤ 5 ∧ w1 = nI x1 ∧ w2 = nI x2 ∧ (∀ x y z, ∃ p t w, fX8_readLeader N (nI K) (nI a) x y z by' (nI C) (nI L) hm fe' = some ((1 : Int32), nI a', p, t, w, nI (L + 1), upd hm L (nI x1), upd fe' L (nI x2))) ∧ rowOk N K by' tx a' at3 st3 so3 va3 f3) ∨
    ∃ s, s ≤ K ∧ (∀ x y z, ∃ p t w r1 r2 r3, fX8_readLeader N (nI K) (nI a) x y z by' (nI C) (nI L) hm fe' = some ((0 : Int32), p, nI s, t, w, r1, r2, r3)) ∧ rowNo s st3 so3 f3) := by
  obtain ⟨s, hs, rfl, h1⟩ := num_pair (N := N) (lo := 0) (hi := C - 1) hN hK hB hb ht (by omega) (by omega) h
  have eC : nI C - (1 : Int32) = nI (C - 1) := pk_sub (b := 1) hC
  have e6 : (6 : Int32) + nI L = nI (6 + L) := by rw [show (6 : Int32) = nI 6 from rfl, nI_add]
  unfold fX10_readRow
  rw [if_neg (by decide), if_neg (by decide), cl1, hco, hle, e6, eC]
  rcases h1 with ⟨v, a', at2, st2, so2, va2, v1, v2, c1, m1, ha', -, t2, -, -⟩ | ⟨c1, m1, -⟩
  · have m1 : fX10_number N (nI K) at' (nI s) so va (-9 : Int32) tx (0 : Int32) (nI (C - 1)) = _ := m1
    rw [m1, Option.bind_some, gi_ok (by omega) (by omega)]
    dsimp only
    obtain ⟨s2, hs2, rfl, h2⟩ := num_pair (N := N) (lo := 1) (hi := 5) hN hK hB hb ht (by omega) (by omega) t2
    rcases h2 with ⟨v', a2, at3, st3, so3, va3, v1', v2', c2, m2, ha2, -, t3, -, -⟩ | ⟨c2, m2, -⟩
    · have m2 : fX10_number N (nI K) at2 (nI s2) so2 va2 (-9 : Int32) tx (1 : Int32) (5 : Int32) = _ := m2
      rw [m2, Option.bind_some, gi_ok (by omega) (by omega), cl (show 6 + L < 2 ^ 31 by omega), nI_1]
      refine ⟨at3, st3, so3, va3, (-9 : Int32), nI v, nI v', rfl, ?_⟩
      obtain ⟨s3, hs3, rfl, h3⟩ := stop_pair (N := N) hN hK hB hb ht t3
      rcases h3 with ⟨a3, at4, st4, so4, va4, c3, rfl, m3, ha3, t4⟩ | ⟨n3, c3⟩
      · refine Or.inl ⟨v, v', a3, by omega, v1', v2', rfl, rfl, fun x y z => ?_, at4, st4, so4, va4, rfl, rfl, ha3, m3, t4⟩
        obtain ⟨w, c3⟩ := c3 (nI s2) (2 : Int32) (nI v')
        refine ⟨nI s3, (3 : Int32), w, ?_⟩
        unfold fX8_readLeader
        rw [eC, show fX8_readNumber N (nI K) (nI a) x y z by' (0 : Int32) (nI (C - 1)) = _ from c1 x y z, Option.bind_some]
        dsimp only
        rw [if_neg (by decide), show fX8_readNumber N (nI K) (nI a') (nI s) (2 : Int32) (nI v) by' (1 : Int32) (5 : Int32) = _ from c2 _ _ _, Option.bind_some]
        dsimp only
        rw [if_neg (by decide), addLeader_ok hC8 hL (by omega), Option.bind_some]
        dsimp only
        rw [c3, Option.bind_some, gc_ok (by dsimp only; decide)]
      · refine Or.inr ⟨s3, hs3, fun x y z => ?_, Or.inr ⟨rfl, n3, rfl⟩⟩
        obtain ⟨p, t, w, c3⟩ := c3 (nI s2) (2 : Int32) (nI v')
        refine ⟨p, t, w, nI (L + 1), upd hm L (nI v), upd fe' L (nI v'), ?_⟩
        unfold fX8_readLeader
        rw [eC, show fX8_readNumber N (nI K) (nI a) x y z by' (0 : Int32) (nI (C - 1)) = _ from c1 x y z, Option.bind_some]
        dsimp only
        rw [if_neg (by decide), show fX8_readNumber N (nI K) (nI a') (nI s) (2 : Int32) (nI v) by' (1 : Int32) (5 : Int32) = _ from c2 _ _ _, Option.bind_some]
        dsimp only
        rw [if_neg (by decide), addLeader_ok hC8 hL (by omega), Option.bind_some]
        dsimp only
        rw [c3, Option.bind_some, gc_ok (by dsimp only; decide)]
    · have m2 : fX10_number N (nI K) at2 (nI s2) so2 va2 (-9 : Int32) tx (1 : Int32) (5 : Int32) = _ := m2
      rw [m2, Option.bind_some, gi_ok (by omega) (by omega), cl (show 6 + L < 2 ^ 31 by omega), nI_1]
      refine ⟨at2, nI s2, so2, va2, nI s2, nI v, va2, rfl, Or.inr ⟨s2, hs2, fun x y z => ?_, Or.inl rfl⟩⟩
      obtain ⟨p, t, w, c2⟩ := c2 (nI s) (2 : Int32) (nI v)
      refine ⟨p, t, w, nI L, hm, fe', ?_⟩
      unfold fX8_readLeader
      rw [eC, show fX8_readNumber N (nI K) (nI a) x y z by' (0 : Int32) (nI (C - 1)) = _ from c1 x y z, Option.bind_some]
      dsimp only
      rw [if_neg (by decide), show fX8_readNumber N (nI K) (nI a') (nI s) (2 : Int32) (nI v) by' (1 : Int32) (5 : Int32) = _ from c2, Option.bind_some]
      dsimp only
      rw [if_pos rfl]
  · have m1 : fX10_number N (nI K) at' (nI s) so va (-9 : Int32) tx (0 : Int32) (nI (C - 1)) = _ := m1
    rw [m1, Option.bind_some, gi_ok (by omega) (by omega)]
    dsimp only
    rw [num_dead (nI_n9 (by omega)), Option.bind_some, gi_ok (by omega) (by omega), cl (show 6 + L < 2 ^ 31 by omega), nI_1]
    refine ⟨at', nI s, so, va, nI s, va, va, rfl, Or.inr ⟨s, hs, fun x y z => ?_, Or.inl rfl⟩⟩
    obtain ⟨p, t, w, c1⟩ := c1 x y z
    refine ⟨p, t, w, nI L, hm, fe', ?_⟩
    unfold fX8_readLeader
    rw [eC, show fX8_readNumber N (nI K) (nI a) x y z by' (0 : Int32) (nI (C - 1)) = _ from c1, Option.bind_some]
    dsimp only
    rw [if_pos rfl]
theorem b110_dead {C S : Nat} {f y0 x1 : Int32} (hS : S < 12) (hst : st 1 = nI S) (h : ¬ f = (-9 : Int32)) : fX10_readRow_b110 N (nI K) tx x1 at' sta so va f co st en ti le ho fe (nI (12 + S)) y0 (nI (25 + 2 * S)) = some (at', sta, so, va, f, co, upd st 1 (nI (S + 1)), upd en (25 + 2 * S) va, upd ti (12 + S) va, le, ho, fe) := by
  unfold fX10_readRow_b110
  rw [due_dead h, Option.bind_some, gi_ok (by omega) (by omega)]
  dsimp only
  rw [num_dead h, Option.bind_some, gi_ok (by omega) (by omega), cl1, hst, cl (show 12 + S < 2 ^ 31 by omega), cl (show 25 + 2 * S < 2 ^ 31 by omega), nI_1]
theorem row_street {C S : Nat} {fi se hr : Nat → Int32} (hN : 1000 ≤ N) (hK : K ≤ 150) (hB : ∀ i, i < K → B i < 256) (hb : holds K B by') (ht : mbytes K B tx) (h : tokR N K by' a at' sta so va) (hC : 1 ≤ C) (hC8 : C ≤ 8) (hS : S < 12) (hco : co 1 = nI C) (hst : st 1 = nI S) : ∃ at3 st3 so3 va3 f3 w1 w2 w3, fX10_readRow N (nI K) at' sta so va (-9 : Int32) tx co st en ti le ho fe (115 : Int32) = some (at3, st3, so3, va3, f3, co, upd st 1 (nI (S + 1)), upd (upd en (24 + 2 * S) w1) (25 + 2 * S) w2, upd ti (12 + S) w3, le, ho, fe) ∧
    ((∃ x1 x2 x3 a', x1 < C ∧ x2 < C ∧ x1 ≠ x2 ∧ 1 ≤ x3 ∧ x3 ≤ 9 ∧ w1 = nI x1 ∧ w2 = nI x2 ∧ w3 = nI x3 ∧ (∀ x y z, ∃ p t w, fX8_readStreet N (nI K) (nI a) x y z by' (nI C) (nI S) fi se hr = some ((1 : Int32), nI a', p, t, w, nI (S + 1), upd fi S (nI x1), upd se S (nI x2), upd hr S (nI x3))) ∧ rowOk N K by' tx a' at3 st3 so3 va3 f3) ∨
    ∃ s, s ≤ K ∧ (∀ x y z, ∃ p t w r1 r2 r3 r4, fX8_readStreet N (nI K) (nI a) x y z by' (nI C) (nI S) fi se hr = some ((0 : Int32), p, nI s, t, w, r1, r2, r3, r4)) ∧ rowNo s st3 so3 f3) := by
  obtain ⟨s, hs, rfl, h1⟩ := num_pair (N := N) (lo := 0) (hi := C - 1) hN hK hB hb ht (by omega) (by omega) h
  have eC : nI C - (1 : Int32) = nI (C - 1) := pk_sub (b := 1) hC
  have e12 : (12 : Int32) + nI S = nI (12 + S) := by rw [show (12 : Int32) = nI 12 from rfl, nI_add]
  have e24 : (2 : Int32) * nI (12 + S) = nI (24 + 2 * S) := by rw [show (2 : Int32) = nI 2 from rfl, pk_mul]; exact nI_cong (by omega)
  have e25 : nI (24 + 2 * S) + (1 : Int32) = nI (25 + 2 * S) := by rw [nI_1]; exact nI_cong (by omega)
  unfold fX10_readRow
  rw [if_neg (by decide), if_pos rfl, cl1, hco, hst, e12, e24, e25, eC]
  rcases h1 with ⟨v, a', at2, st2, so2, va2, v1, v2, c1, m1, ha', -, t2, -, -⟩ | ⟨c1, m1, -⟩
  · have m1 : fX10_number N (nI K) at' (nI s) so va (-9 : Int32) tx (0 : Int32) (nI (C - 1)) = _ := m1
    rw [m1, Option.bind_some, gi_ok (by omega) (by omega)]
    dsimp only
    rw [gi_ok (by omega) (by omega), cl (show 24 + 2 * S < 2 ^ 31 by omega), pk_us]
    obtain ⟨s2, hs2, rfl, h2⟩ := num_pair (N := N) (lo := 0) (hi := C - 1) hN hK hB hb ht (by omega) (by omega) t2
    -- not a second corner
    have bad : ∀ (va2' : Int32), va2' = va2 → (∀ x y z, ∃ p t w r1 r2 r3 r4, fX8_readStreet N (nI K) (nI a) x y z by' (nI C) (nI S) fi se hr = some ((0 : Int32), p, nI s2, t, w, r1, r2, r3, r4)) → ∃ at3 st3 so3 va3 f3 w1 w2 w3, fX10_readRow_b109 N (nI K) tx (115 : Int32) at2 (nI s2) so2 va2 (-9 : Int32) co st (upd en (24 + 2 * S) (nI v)) ti le ho fe (nI (12 + S)) (nI (25 + 2 * S)) = some (at3, st3, so3, va3, f3, co, upd st 1 (nI (S + 1)), upd (upd en (24 + 2 * S) w1) (25 + 2 * S) w2, upd ti (12 + S) w3, le, ho, fe) ∧
        ((∃ x1 x2 x3 a', x1 < C ∧ x2 < C ∧ x1 ≠ x2 ∧ 1 ≤ x3 ∧ x3 ≤ 9 ∧ w1 = nI x1 ∧ w2 = nI x2 ∧ w3 = nI x3 ∧ (∀ x y z, ∃ p t w, fX8_readStreet N (nI K) (nI a) x y z by' (nI C) (nI S) fi se hr = some ((1 : Int32), nI a', p, t, w, nI (S + 1), upd fi S (nI x1), upd se S (nI x2), upd hr S (nI x3))) ∧ rowOk N K by' tx a' at3 st3 so3 va3 f3) ∨
        ∃ s, s ≤ K ∧ (∀ x y z, ∃ p t w r1 r2 r3 r4, fX8_readStreet N (nI K) (nI a) x y z by' (nI C) (nI S) fi se hr = some ((0 : Int32), p, nI s, t, w, r1, r2, r3, r4)) ∧ rowNo s st3 so3 f3) := by
      intro va2' _ hcl
      unfold fX10_readRow_b109 fX10_readRow_b110
      rw [due_no, Option.bind_some, gi_ok (by omega) (by omega)]
      dsimp only
      rw [num_dead (nI_n9 (by omega)), Option.bind_some, gi_ok (by omega) (by omega), cl1, hst, cl (show 12 + S < 2 ^ 31 by omega), cl (show 25 + 2 * S < 2 ^ 31 by omega), nI_1]
      exact ⟨at2, nI s2, so2, va2, nI s2, nI v, va2, va2, rfl, Or.inr ⟨s2, hs2, hcl, Or.inl rfl⟩⟩
    rcases h2 with ⟨v', a2, at3, st3, so3, va3, v1', v2', c2, m2, ha2, rfl, t3, rfl, rfl⟩ | ⟨c2, m2, n2⟩
    · rw [if_pos rfl, if_neg (dj (by omega) (by omega))]
      by_cases q : v' = v
      · subst q
        rw [if_pos rfl]
        refine bad _ rfl (fun x y z => ⟨nI a2, (2 : Int32), nI v', nI S, fi, se, hr, ?_⟩)
        unfold fX8_readStreet
        rw [eC, show fX8_readNumber N (nI K) (nI a) x y z by' (0 : Int32) (nI (C - 1)) = _ from c1 x y z, Option.bind_some]
        dsimp only
        rw [if_neg (by decide), show fX8_readNumber N (nI K) (nI a') (nI s) (2 : Int32) (nI v') by' (0 : Int32) (nI (C - 1)) = _ from c2 _ _ _, Option.bind_some]
        dsimp only
        rw [if_neg (by decide), if_pos rfl]
      · rw [if_neg (fun z => q ((nI_eq (by omega) (by omega)).mp z))]
        obtain ⟨at4, st4, so4, va4, d1, t4⟩ := due_yes (N := N) (st := nI s2) (so := (1 : Int32)) (va := nI v') hN hK hB hb ht ha2
        unfold fX10_readRow_b110
        rw [d1, Option.bind_some, gi_ok (by omega) (by omega)]
        dsimp only
        have hc2 : ∀ (r : Option (Int32 × Int32 × Int32 × Int32 × Int32 × Int32 × (Nat → Int32) × (Nat → Int32) × (Nat → Int32))) (x y z : Int32), ((fX8_readNumber N (nI K) (nI a2) (nI s2) (2 : Int32) (nI v') by' (1 : Int32) (9 : Int32)).bind fun u6 => (if u6.1 = 0 then some ((0 : Int32), u6.2.1, u6.2.2.1, u6.2.2.2.1, u6.2.2.2.2, nI S, fi, se, hr) else ((fX0_addStreet N (nI C) (nI S) fi se hr (nI v) (nI v') u6.2.2.2.2).bind fun u8 => ((fX8_readStop N (nI K) u6.2.1 u6.2.2.1 u6.2.2.2.1 u6.2.2.2.2 by').bind fun u9 => gc ((u9.1 &&& 1) = u9.1) (some (u9.1, u9.2.1, u9.2.2.1, u9.2.2.2.1, u9.2.2.2.2, u8.1, u8.2.1, u8.2.2.1, u8.2.2.2)))))) = r → fX8_readStreet N (nI K) (nI a) x y z by' (nI C) (nI S) fi se hr = r := fun r x y z hr' => by
          unfold fX8_readStreet
          rw [eC, show fX8_readNumber N (nI K) (nI a) x y z by' (0 : Int32) (nI (C - 1)) = _ from c1 x y z, Option.bind_some]
          dsimp only
          rw [if_neg (by decide), show fX8_readNumber N (nI K) (nI a') (nI s) (2 : Int32) (nI v) by' (0 : Int32) (nI (C - 1)) = _ from c2 _ _ _, Option.bind_some]
          dsimp only
          rw [if_neg (by decide), if_neg (fun z => q ((nI_eq (by omega) (by omega)).mp z))]
          exact hr'
        obtain ⟨s3, hs3, rfl, h3⟩ := num_pair (N := N) (lo := 1) (hi := 9) hN hK hB hb ht (by omega) (by omega) t4
        rcases h3 with ⟨v3, a3, at5, st5, so5, va5, v1'', v2'', c3, m3, ha3, -, t5, -, -⟩ | ⟨c3, m3, -⟩
        · have m3 : fX10_number N (nI K) at4 (nI s3) so4 va4 (-9 : Int32) tx (1 : Int32) (9 : Int32) = _ := m3
          rw [m3, Option.bind_some, gi_ok (by omega) (by omega), cl1, hst, cl (show 12 + S < 2 ^ 31 by omega), cl (show 25 + 2 * S < 2 ^ 31 by omega), nI_1]
          refine ⟨at5, st5, so5, va5, (-9 : Int32), nI v, nI v', nI v3, rfl, ?_⟩
          obtain ⟨s4, hs4, rfl, h4⟩ := stop_pair (N := N) hN hK hB hb ht t5
          rcases h4 with ⟨a4, at6, st6, so6, va6, c4, rfl, m4, ha4, t6⟩ | ⟨n4, c4⟩
          · refine Or.inl ⟨v, v', v3, a4, by omega, by omega, fun z => q z.symm, v1'', v2'', rfl, rfl, rfl, fun x y z => ?_, at6, st6, so6, va6, rfl, rfl, ha4, m4, t6⟩
            obtain ⟨w, c4⟩ := c4 (nI s3) (2 : Int32) (nI v3)
            refine ⟨nI s4, (3 : Int32), w, hc2 _ x y z ?_⟩
            rw [show fX8_readNumber N (nI K) (nI a2) (nI s2) (2 : Int32) (nI v') by' (1 : Int32) (9 : Int32) = _ from c3 _ _ _, Option.bind_some]
            dsimp only
            rw [if_neg (by decide), addStreet_ok hC8 hS (by omega) (by omega), Option.bind_some]
            dsimp only
            rw [c4, Option.bind_some, gc_ok (by dsimp only; decide)]
          · refine Or.inr ⟨s4, hs4, fun x y z => ?_, Or.inr ⟨rfl, n4, rfl⟩⟩
            obtain ⟨p, t, w, c4⟩ := c4 (nI s3) (2 : Int32) (nI v3)
            refine ⟨p, t, w, nI (S + 1), upd fi S (nI v), upd se S (nI v'), upd hr S (nI v3), hc2 _ x y z ?_⟩
            rw [show fX8_readNumber N (nI K) (nI a2) (nI s2) (2 : Int32) (nI v') by' (1 : Int32) (9 : Int32) = _ from c3 _ _ _, Option.bind_some]
            dsimp only
            rw [if_neg (by decide), addStreet_ok hC8 hS (by omega) (by omega), Option.bind_some]
            dsimp only
            rw [c4, Option.bind_some, gc_ok (by dsimp only; decide)]
        · have m3 : fX10_number N (nI K) at4 (nI s3) so4 va4 (-9 : Int32) tx (1 : Int32) (9 : Int32) = _ := m3
          rw [m3, Option.bind_some, gi_ok (by omega) (by omega), cl1, hst, cl (show 12 + S < 2 ^ 31 by omega), cl (show 25 + 2 * S < 2 ^ 31 by omega), nI_1]
          refine ⟨at4, nI s3, so4, va4, nI s3, nI v, nI v', va4, rfl, Or.inr ⟨s3, hs3, fun x y z => ?_, Or.inl rfl⟩⟩
          obtain ⟨p, t, w, c3⟩ := c3 (nI s2) (2 : Int32) (nI v')
          refine ⟨p, t, w, nI S, fi, se, hr, hc2 _ x y z ?_⟩
          rw [show fX8_readNumber N (nI K) (nI a2) (nI s2) (2 : Int32) (nI v') by' (1 : Int32) (9 : Int32) = _ from c3, Option.bind_some]
          dsimp only
          rw [if_pos rfl]
    · have hcl : ∀ x y z, ∃ p t w r1 r2 r3 r4, fX8_readStreet N (nI K) (nI a) x y z by' (nI C) (nI S) fi se hr = some ((0 : Int32), p, nI s2, t, w, r1, r2, r3, r4) := fun x y z => by
        obtain ⟨p, t, w, c2⟩ := c2 (nI s) (2 : Int32) (nI v)
        refine ⟨p, t, w, nI S, fi, se, hr, ?_⟩
        unfold fX8_readStreet
        rw [eC, show fX8_readNumber N (nI K) (nI a) x y z by' (0 : Int32) (nI (C - 1)) = _ from c1 x y z, Option.bind_some]
        dsimp only
        rw [if_neg (by decide), show fX8_readNumber N (nI K) (nI a') (nI s) (2 : Int32) (nI v) by' (0 : Int32) (nI (C - 1)) = _ from c2, Option.bind_some]
        dsimp only
        rw [if_pos rfl]
      rcases n2 with n2 | ⟨rfl, v', rfl, w1, w2⟩
      · rw [if_neg n2]
        exact bad _ rfl hcl
      · rw [if_pos rfl, if_pos (nI_le (by omega) w1)]
        exact bad _ rfl hcl
  · have m1 : fX10_number N (nI K) at' (nI s) so va (-9 : Int32) tx (0 : Int32) (nI (C - 1)) = _ := m1
    rw [m1, Option.bind_some, gi_ok (by omega) (by omega)]
    dsimp only
    rw [gi_ok (by omega) (by omega), cl (show 24 + 2 * S < 2 ^ 31 by omega)]
    have hd := fun y0 en' => b110_dead (N := N) (K := K) (tx := tx) (co := co) (st := st) (le := le) (en := en') (ti := ti) (ho := ho) (fe := fe) (at' := at') (sta := nI s) (so := so) (va := va) (C := C) (f := nI s) (y0 := y0) (x1 := (115 : Int32)) hS hst (nI_n9 (by omega))
    unfold fX10_readRow_b109
    rw [hd, hd]
    refine ⟨at', nI s, so, va, nI s, va, va, va, ?_, Or.inr ⟨s, hs, fun x y z => ?_, Or.inl rfl⟩⟩
    · repeat' split
      all_goals rfl
    · obtain ⟨p, t, w, c1⟩ := c1 x y z
      refine ⟨p, t, w, nI S, fi, se, hr, ?_⟩
      unfold fX8_readStreet
      rw [eC, show fX8_readNumber N (nI K) (nI a) x y z by' (0 : Int32) (nI (C - 1)) = _ from c1, Option.bind_some]
      dsimp only
      rw [if_pos rfl]
end RW
