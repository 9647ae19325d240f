/-! a TOKEN, in both -/
def TR (tc vc so va : Int32) : Prop := (tc = 0 ∧ so = 3) ∨ (∃ v, 97 ≤ v ∧ v ≤ 122 ∧ tc = 1 ∧ vc = nI v ∧ so = nI v) ∨ (∃ v, v ≤ 9 ∧ tc = 2 ∧ vc = nI v ∧ so = 1 ∧ va = nI v) ∨ (tc = 3 ∧ so = 2) ∨ (tc = 4 ∧ (so = 4 ∨ (so = 1 ∧ ∃ v, 10 ≤ v ∧ v < 2 ^ 31 ∧ va = nI v)))
/-- the model is at the TOKEN that the class reads next from the place a -/
def tokR (N K : Nat) (by' : Nat → Int32) (a : Nat) (at' st so va : Int32) : Prop := ∃ a' s tc, s ≤ a' ∧ a' ≤ K ∧ at' = nI a' ∧ st = nI s ∧ ∀ x y z, ∃ vc, fX8_advance N (nI K) (nI a) x y z by' = some (nI a', nI s, tc, vc) ∧ TR tc vc so va
section TK
variable {N K : Nat} {B : Nat → Nat} {by' tx : Nat → Int32}
theorem tok_step {a : Nat} (hN : 1000 ≤ N) (hK : K ≤ 150) (hB : ∀ i, i < K → B i < 256) (hb : holds K B by') (ht : mbytes K B tx) (ha : a ≤ K) : ∃ at' st so va, (∀ x y z, fX10_step N (nI K) (nI a) x y z tx = some (at', st, so, va)) ∧ tokR N K by' a at' st so va := by
  obtain ⟨g1, g2, -, g4⟩ := sk_in (B := B) (lo := 32) (hi := 32) (K - a) a (Nat.le_refl _) ha
  have cs0 := cskip_ok (N := N) (lo := 32) (hi := 32) hN hK (by omega) (by omega) hB hb ha
  obtain ⟨s, hs⟩ : ∃ s, skN B K 32 32 a = s := ⟨_, rfl⟩
  have mstep : ∀ (x y z : Int32) (r : Option (Int32 × Int32 × Int32 × Int32)), (∀ fu, fX10_step_b0 N (nI K) tx (fu + 1) (nI s) x y z = r) → fX10_step N (nI K) (nI a) x y z tx = r := fun x y z r h => by
    unfold fX10_step
    obtain ⟨fu, e⟩ := blank_loop (N := N) (st := x) (so := y) (va := z) hK hB ht (K - a) a N (Nat.le_refl _) (by omega) ha
    rw [e, hs]
    exact h fu
  rw [hs] at g1 g2 g4 cs0
  obtain ⟨f0, cs1⟩ : ∃ f0, fX8_skip N (nI K) (nI a) by' (32 : Int32) (32 : Int32) = some (f0, nI s) := ⟨_, cs0⟩
  have cd0 := cskip_ok (N := N) (lo := 48) (hi := 57) hN hK (by omega) (by omega) hB hb g2
  have cl0' := cskip_ok (N := N) (lo := 97) (hi := 122) hN hK (by omega) (by omega) hB hb g2
  by_cases hsK : s < K
  · have h8 := hB s hsK
    have h32 : ¬ nI (B s) = (32 : Int32) := fun z => g4 ⟨hsK, by
      have := (nI_eq (b := 32) (by omega) (by omega)).mp z
      omega⟩
    have hhere := here_in (N := N) hK hB ht hsK
    by_cases qd : 48 ≤ B s ∧ B s ≤ 57
    · -- a NUMBER
      obtain ⟨e1, e2, -, -⟩ := sk_in (B := B) (lo := 48) (hi := 57) (K - s) s (Nat.le_refl _) g2
      have e3 : s + 1 ≤ skN B K 48 57 s := by
        rw [sk_go ⟨hsK, qd.1, qd.2⟩]
        exact (sk_in (B := B) (lo := 48) (hi := 57) (K - (s + 1)) (s + 1) (Nat.le_refl _) hsK).1
      obtain ⟨e, he⟩ : ∃ e, skN B K 48 57 s = e := ⟨_, rfl⟩
      rw [he] at e1 e2 e3 cd0
      rw [if_neg (by omega)] at cd0
      have cd1 : fX8_skip N (nI K) (nI s) by' (48 : Int32) (57 : Int32) = some (1, nI e) := cd0
      obtain ⟨V', k1, k2⟩ := digit_loop (N := N) (s := s) hK hB ht qd.1 qd.2 (K - s) s N 0 (Nat.le_refl _) (by omega) g2 (Nat.le_refl _) ⟨by omega, fun _ => rfl, fun z => by omega, fun z => by omega⟩
      rw [he] at k1 k2
      refine ⟨nI e, nI s, (if 99 < V' ∨ (B s = 48 ∧ 1 < e - s) then (4 : Int32) else (1 : Int32)), nI V', fun x y z => mstep x y z _ (fun fu => ?_), e, s, (if e - s = 1 then (2 : Int32) else (4 : Int32)), by omega, e2, rfl, rfl, fun x y z => ⟨nI (B s - 48), ?_, ?_⟩⟩
      · rw [fX10_step_b0, hhere, Option.bind_some, if_neg h32, Option.bind_some, if_pos (nI_pos' (by omega)), show (97 : Int32) = nI 97 from rfl, show (122 : Int32) = nI 122 from rfl, in_nI (by omega) (by omega) (by omega), if_neg (fun z => by omega), Option.bind_some, if_pos rfl, show (48 : Int32) = nI 48 from rfl, show (57 : Int32) = nI 57 from rfl, in_nI (by omega) (by omega) (by omega), if_pos qd, Option.bind_some, if_neg (by decide)]
        exact k2 y
      · unfold fX8_advance fX8_advance_b47
        rw [cs1, Option.bind_some]
        dsimp only
        rw [cd1, Option.bind_some]
        dsimp only
        rw [if_neg (by decide), gi_ok (by omega) (by omega), gi_ok (by omega) (by omega), cl (show s < 2 ^ 31 by omega), hb s hsK, show (48 : Int32) = nI 48 from rfl, pk_sub qd.1, pk_sub (by omega)]
        by_cases q1 : e - s = 1
        · rw [if_pos (show nI (e - s) = (1 : Int32) from congrArg nI q1), if_pos q1]
        · rw [if_neg (show ¬ nI (e - s) = (1 : Int32) from nI_nk (k := 1) rfl q1 (by omega) (by omega)), if_neg q1]
      · obtain ⟨v1, v2, v3, v4⟩ := k1
        by_cases q1 : e - s = 1
        · have hv := v3 q1
          rw [if_pos q1]
          refine Or.inr (Or.inr (Or.inl ⟨B s - 48, by omega, rfl, rfl, ?_, by rw [hv]⟩))
          rw [if_neg (fun z => by omega)]
        · rw [if_neg q1]
          refine Or.inr (Or.inr (Or.inr (Or.inr ⟨rfl, ?_⟩)))
          by_cases q2 : 99 < V' ∨ (B s = 48 ∧ 1 < e - s)
          · exact Or.inl (by rw [if_pos q2])
          · refine Or.inr ⟨by rw [if_neg q2], V', v4 (by omega) (fun z => q2 (Or.inr ⟨z, by omega⟩)), by omega, rfl⟩
    · have cd1 : fX8_skip N (nI K) (nI s) by' (48 : Int32) (57 : Int32) = some (0, nI s) := by
        rw [sk_stop (fun z => qd ⟨z.2.1, z.2.2⟩), if_pos rfl] at cd0
        exact cd0
      by_cases ql : 97 ≤ B s ∧ B s ≤ 122
      · -- letters
        have e3 : s + 1 ≤ skN B K 97 122 s := by
          rw [sk_go ⟨hsK, ql.1, ql.2⟩]
          exact (sk_in (B := B) (lo := 97) (hi := 122) (K - (s + 1)) (s + 1) (Nat.le_refl _) hsK).1
        obtain ⟨-, e2, -, -⟩ := sk_in (B := B) (lo := 97) (hi := 122) (K - s) s (Nat.le_refl _) g2
        have hl := fun y z => letter_loop (N := N) (s := s) (so := y) (va := z) (x1 := nI (B s)) hK hB ht (K - s) s N (Nat.le_refl _) (by omega) g2 (Nat.le_refl _)
        obtain ⟨e, he⟩ : ∃ e, skN B K 97 122 s = e := ⟨_, rfl⟩
        rw [he] at e2 e3 cl0'
        rw [if_neg (by omega)] at cl0'
        have cl1' : fX8_skip N (nI K) (nI s) by' (97 : Int32) (122 : Int32) = some (1, nI e) := cl0'
        refine ⟨nI e, nI s, (if e - s = 1 then nI (B s) else (4 : Int32)), 0, fun x y z => mstep x y z _ (fun fu => ?_), e, s, (if e - s = 1 then (1 : Int32) else (4 : Int32)), by omega, e2, rfl, rfl, fun x y z => ⟨nI (B s), ?_, ?_⟩⟩
        · rw [fX10_step_b0, hhere, Option.bind_some, if_neg h32, Option.bind_some, if_pos (nI_pos' (by omega)), show (97 : Int32) = nI 97 from rfl, show (122 : Int32) = nI 122 from rfl, in_nI (by omega) (by omega) (by omega), if_pos ql, Option.bind_some, if_neg (by decide), hl y 0, he]
        · unfold fX8_advance fX8_advance_b99
          rw [cs1, Option.bind_some]
          dsimp only
          rw [cd1, Option.bind_some]
          dsimp only
          rw [if_pos rfl, cl1', Option.bind_some]
          dsimp only
          rw [if_neg (by decide), gi_ok (by omega) (by omega), gi_ok (by omega) (by omega), cl (show s < 2 ^ 31 by omega), hb s hsK, pk_sub (by omega)]
          by_cases q1 : e - s = 1
          · rw [if_pos (show nI (e - s) = (1 : Int32) from congrArg nI q1), if_pos q1]
          · rw [if_neg (show ¬ nI (e - s) = (1 : Int32) from nI_nk (k := 1) rfl q1 (by omega) (by omega)), if_neg q1]
        · by_cases q1 : e - s = 1
          · rw [if_pos q1, if_pos q1]
            exact Or.inr (Or.inl ⟨B s, ql.1, ql.2, rfl, rfl, rfl⟩)
          · rw [if_neg q1, if_neg q1]
            exact Or.inr (Or.inr (Or.inr (Or.inr ⟨rfl, Or.inl rfl⟩)))
      · -- ; or a byte that begins no TOKEN
        have cl1' : fX8_skip N (nI K) (nI s) by' (97 : Int32) (122 : Int32) = some (0, nI s) := by
          rw [sk_stop (fun z => ql ⟨z.2.1, z.2.2⟩), if_pos rfl] at cl0'
          exact cl0'
        refine ⟨nI (s + 1), nI s, (if B s = 59 then (2 : Int32) else (4 : Int32)), 0, fun x y z => mstep x y z _ (fun fu => ?_), s + 1, s, (if B s = 59 then (3 : Int32) else (4 : Int32)), by omega, hsK, rfl, rfl, fun x y z => ⟨z, ?_, ?_⟩⟩
        · rw [fX10_step_b0, hhere, Option.bind_some, if_neg h32, Option.bind_some, if_pos (nI_pos' (by omega)), show (97 : Int32) = nI 97 from rfl, show (122 : Int32) = nI 122 from rfl, in_nI (by omega) (by omega) (by omega), if_neg ql, Option.bind_some, if_pos rfl, show (48 : Int32) = nI 48 from rfl, show (57 : Int32) = nI 57 from rfl, in_nI (by omega) (by omega) (by omega), if_neg qd, Option.bind_some, if_pos rfl, nI_1]
          unfold fX10_step_b250
          by_cases q1 : B s = 59
          · rw [if_pos (show nI (B s) = (59 : Int32) from congrArg nI q1), if_pos q1]
          · rw [if_neg (show ¬ nI (B s) = (59 : Int32) from nI_nk (k := 59) rfl q1 (by omega) (by omega)), if_neg q1]
        · unfold fX8_advance fX8_advance_b149
          rw [cs1, Option.bind_some]
          dsimp only
          rw [cd1, Option.bind_some]
          dsimp only
          rw [if_pos rfl, cl1', Option.bind_some]
          dsimp only
          rw [if_pos rfl, if_neg (dj hsK (by omega)), gi_ok (by omega) (by omega), cl (show s < 2 ^ 31 by omega), hb s hsK, nI_1]
          by_cases q1 : B s = 59
          · rw [if_pos (show nI (B s) = (59 : Int32) from congrArg nI q1), if_pos q1]
          · rw [if_neg (show ¬ nI (B s) = (59 : Int32) from nI_nk (k := 59) rfl q1 (by omega) (by omega)), if_neg q1]
        · by_cases q1 : B s = 59
          · rw [if_pos q1, if_pos q1]
            exact Or.inr (Or.inr (Or.inr (Or.inl ⟨rfl, rfl⟩)))
          · rw [if_neg q1, if_neg q1]
            exact Or.inr (Or.inr (Or.inr (Or.inr ⟨rfl, Or.inl rfl⟩)))
  · -- the end
    have cd1 : fX8_skip N (nI K) (nI s) by' (48 : Int32) (57 : Int32) = some (0, nI s) := by
      rw [sk_stop (fun z => hsK z.1), if_pos rfl] at cd0
      exact cd0
    have cl1' : fX8_skip N (nI K) (nI s) by' (97 : Int32) (122 : Int32) = some (0, nI s) := by
      rw [sk_stop (fun z => hsK z.1), if_pos rfl] at cl0'
      exact cl0'
    refine ⟨nI s, nI s, 3, 0, fun x y z => mstep x y z _ (fun fu => ?_), s, s, 0, Nat.le_refl _, g2, rfl, rfl, fun x y z => ⟨z, ?_, Or.inl ⟨rfl, rfl⟩⟩⟩
    · rw [fX10_step_b0, here_out hK (by omega) (by omega), Option.bind_some, if_neg (by decide), Option.bind_some, if_neg (by decide)]
    · unfold fX8_advance
      rw [cs1, Option.bind_some]
      dsimp only
      rw [cd1, Option.bind_some]
      dsimp only
      rw [if_pos rfl, cl1', Option.bind_some]
      dsimp only
      rw [if_pos rfl, if_pos (nI_le (by omega) (by omega))]
end TK
