/-! ITEMS: numbers and their end, in both -/
section IT
variable {N K : Nat} {B : Nat → Nat} {by' tx : Nat → Int32}
theorem due_no {at' st so va : Int32} : fX10_due N (nI K) at' st so va (-9 : Int32) tx (0 : Int32) = some (va, at', st, so, va, st) := by
  unfold fX10_due
  rw [if_pos rfl, if_pos rfl]
theorem due_dead {at' st so va f x1 : Int32} (h : ¬ f = (-9 : Int32)) : fX10_due N (nI K) at' st so va f tx x1 = some (va, at', st, so, va, f) := by
  unfold fX10_due
  rw [if_neg h]
theorem due_yes {a : Nat} {st so va : Int32} (hN : 1000 ≤ N) (hK : K ≤ 150) (hB : ∀ i, i < K → B i < 256) (hb : holds K B by') (ht : mbytes K B tx) (ha : a ≤ K) : ∃ at2 st2 so2 va2, fX10_due N (nI K) (nI a) st so va (-9 : Int32) tx (1 : Int32) = some (va, at2, st2, so2, va2, (-9 : Int32)) ∧ tokR N K by' a at2 st2 so2 va2 := by
  obtain ⟨at2, st2, so2, va2, h1, h2⟩ := tok_step (N := N) hN hK hB hb ht ha
  refine ⟨at2, st2, so2, va2, ?_, h2⟩
  unfold fX10_due
  rw [if_pos rfl, if_neg (by decide), h1, Option.bind_some]
theorem num_dead {at' st so va f lo hi : Int32} (h : ¬ f = (-9 : Int32)) : fX10_number N (nI K) at' st so va f tx lo hi = some (va, at', st, so, va, f) := by
  have h26 : ∀ x1 x2 y0, fX10_number_b26 N (nI K) tx x1 x2 at' st so va f y0 = some (va, at', st, so, va, f) := fun x1 x2 y0 => by
    unfold fX10_number_b26
    rw [due_dead h, Option.bind_some]
  unfold fX10_number fX10_number_b25
  rw [h26, h26]
  by_cases q : so = (1 : Int32)
  · rw [if_pos q]
    unfold fX10_in
    by_cases q1 : va < lo
    · rw [if_pos q1, Option.bind_some, if_pos rfl]
    · rw [if_neg q1]
      by_cases q2 : hi < va
      · rw [if_pos q2, Option.bind_some, if_pos rfl]
      · rw [if_neg q2, Option.bind_some, if_neg (by decide)]
  · rw [if_neg q]
/-- a NUMBER from lo to hi is due -/
def numOk (N K : Nat) (by' tx : Nat → Int32) (lo hi a s : Nat) (at' st so va : Int32) : Prop := ∃ v a' at2 st2 so2 va2, lo ≤ v ∧ v ≤ hi ∧ (∀ x y z, fX8_readNumber N (nI K) (nI a) x y z by' (nI lo) (nI hi) = some ((1 : Int32), nI a', nI s, (2 : Int32), nI v)) ∧ fX10_number N (nI K) at' st so va (-9 : Int32) tx (nI lo) (nI hi) = some (nI v, at2, st2, so2, va2, (-9 : Int32)) ∧ a' ≤ K ∧ at' = nI a' ∧ tokR N K by' a' at2 st2 so2 va2 ∧ so = (1 : Int32) ∧ va = nI v
def numNo (N K : Nat) (by' tx : Nat → Int32) (lo hi a s : Nat) (at' st so va : Int32) : Prop := (∀ x y z, ∃ p t w, fX8_readNumber N (nI K) (nI a) x y z by' (nI lo) (nI hi) = some ((0 : Int32), p, nI s, t, w)) ∧ fX10_number N (nI K) at' st so va (-9 : Int32) tx (nI lo) (nI hi) = some (va, at', st, so, va, nI s) ∧ (¬ so = (1 : Int32) ∨ (so = (1 : Int32) ∧ ∃ v, va = nI v ∧ v < 2 ^ 31 ∧ (v < lo ∨ hi < v)))
theorem num_pair {lo hi a : Nat} {at' st so va : Int32} (hN : 1000 ≤ N) (hK : K ≤ 150) (hB : ∀ i, i < K → B i < 256) (hb : holds K B by') (ht : mbytes K B tx) (hlo : lo ≤ 9) (hhi : hi ≤ 9) (h : tokR N K by' a at' st so va) : ∃ s, s ≤ K ∧ st = nI s ∧ (numOk N K by' tx lo hi a s at' st so va ∨ numNo N K by' tx lo hi a s at' st so va) := by
  obtain ⟨a', s, tc, h1, h2, rfl, rfl, h5⟩ := h
  refine ⟨s, by omega, rfl, ?_⟩
  have dn : ∀ x1 x2, fX10_number_b26 N (nI K) tx x1 x2 (nI a') (nI s) so va (-9 : Int32) (0 : Int32) = some (va, nI a', nI s, so, va, nI s) := fun x1 x2 => by
    unfold fX10_number_b26
    rw [due_no, Option.bind_some]
  -- what is no NUMBER for the class
  have no : ¬ tc = (2 : Int32) → ∀ x y z, ∃ p t w, fX8_readNumber N (nI K) (nI a) x y z by' (nI lo) (nI hi) = some ((0 : Int32), p, nI s, t, w) := fun hn x y z => by
    obtain ⟨vc, e1, -⟩ := h5 x y z
    unfold fX8_readNumber
    rw [e1, Option.bind_some]
    dsimp only
    rw [if_neg hn]
    exact ⟨_, _, _, rfl⟩
  have mno : ¬ so = (1 : Int32) → fX10_number N (nI K) (nI a') (nI s) so va (-9 : Int32) tx (nI lo) (nI hi) = some (va, nI a', nI s, so, va, nI s) := fun hn => by
    unfold fX10_number fX10_number_b25
    rw [if_neg hn, dn]
  obtain ⟨vc, e1, e2⟩ := h5 0 0 0
  rcases e2 with ⟨rfl, rfl⟩ | ⟨v, v1, v2, rfl, rfl, rfl⟩ | ⟨v, v1, rfl, rfl, rfl, rfl⟩ | ⟨rfl, rfl⟩ | ⟨rfl, e2⟩
  · exact Or.inr ⟨no (by decide), mno (by decide), Or.inl (by decide)⟩
  · have hn : ¬ nI v = (1 : Int32) := fun z => by
      have := (nI_eq (b := 1) (by omega) (by omega)).mp z
      omega
    exact Or.inr ⟨no (by decide), mno hn, Or.inl hn⟩
  · -- a digit
    have hv : ∀ x y z, fX8_advance N (nI K) (nI a) x y z by' = some (nI a', nI s, (2 : Int32), nI v) := fun x y z => by
      obtain ⟨vc, e1, e2⟩ := h5 x y z
      rw [e1]
      rcases e2 with ⟨z, -⟩ | ⟨v', -, -, z, -, -⟩ | ⟨v', v1', -, rfl, -, e3⟩ | ⟨z, -⟩ | ⟨z, -⟩
      · exact absurd z (by decide)
      · exact absurd z (by decide)
      · rw [e3]
      · exact absurd z (by decide)
      · exact absurd z (by decide)
    by_cases q1 : v < lo
    · refine Or.inr ⟨fun x y z => ⟨nI a', (2 : Int32), nI v, ?_⟩, ?_, Or.inr ⟨rfl, v, rfl, by omega, Or.inl q1⟩⟩
      · unfold fX8_readNumber
        rw [hv, Option.bind_some]
        dsimp only
        rw [if_pos rfl, if_pos (nI_lt q1 (by omega))]
      · unfold fX10_number fX10_number_b25
        rw [if_pos rfl, in_nI (by omega) (by omega) (by omega), if_neg (fun z => by omega), Option.bind_some, if_pos rfl, dn]
    · by_cases q2 : hi < v
      · refine Or.inr ⟨fun x y z => ⟨nI a', (2 : Int32), nI v, ?_⟩, ?_, Or.inr ⟨rfl, v, rfl, by omega, Or.inr q2⟩⟩
        · unfold fX8_readNumber
          rw [hv, Option.bind_some]
          dsimp only
          rw [if_pos rfl, if_neg (nI_nlt (by omega) (by omega)), if_pos (nI_lt q2 (by omega))]
        · unfold fX10_number fX10_number_b25
          rw [if_pos rfl, in_nI (by omega) (by omega) (by omega), if_neg (fun z => by omega), Option.bind_some, if_pos rfl, dn]
      · obtain ⟨at2, st2, so2, va2, d1, d2⟩ := due_yes (N := N) (st := nI s) (so := (1 : Int32)) (va := nI v) hN hK hB hb ht h2
        refine Or.inl ⟨v, a', at2, st2, so2, va2, by omega, by omega, fun x y z => ?_, ?_, h2, rfl, d2, rfl, rfl⟩
        · unfold fX8_readNumber
          rw [hv, Option.bind_some]
          dsimp only
          rw [if_pos rfl, if_neg (nI_nlt (by omega) (by omega)), if_neg (nI_nlt (by omega) (by omega))]
        · unfold fX10_number fX10_number_b26
          rw [if_pos rfl, in_nI (by omega) (by omega) (by omega), if_pos ⟨by omega, by omega⟩, Option.bind_some, if_neg (by decide), d1, Option.bind_some]
  · exact Or.inr ⟨no (by decide), mno (by decide), Or.inl (by decide)⟩
  · rcases e2 with rfl | ⟨rfl, v, v1, v2, rfl⟩
    · exact Or.inr ⟨no (by decide), mno (by decide), Or.inl (by decide)⟩
    · refine Or.inr ⟨no (by decide), ?_, Or.inr ⟨rfl, v, rfl, v2, Or.inr (by omega)⟩⟩
      unfold fX10_number fX10_number_b25
      rw [if_pos rfl, in_nI v2 (by omega) (by omega), if_neg (fun z => by omega), Option.bind_some, if_pos rfl, dn]
def stopOk (N K : Nat) (by' tx : Nat → Int32) (a s : Nat) (at' st so va : Int32) : Prop := ∃ a' at2 st2 so2 va2, (∀ x y z, ∃ w, fX8_readStop N (nI K) (nI a) x y z by' = some ((1 : Int32), nI a', nI s, (3 : Int32), w)) ∧ so = (2 : Int32) ∧ fX10_due N (nI K) at' st so va (-9 : Int32) tx (1 : Int32) = some (va, at2, st2, so2, va2, (-9 : Int32)) ∧ a' ≤ K ∧ tokR N K by' a' at2 st2 so2 va2
def stopNo (N K : Nat) (by' : Nat → Int32) (a s : Nat) (so : Int32) : Prop := ¬ so = (2 : Int32) ∧ ∀ x y z, ∃ p t w, fX8_readStop N (nI K) (nI a) x y z by' = some ((0 : Int32), p, nI s, t, w)
theorem stop_pair {a : Nat} {at' st so va : Int32} (hN : 1000 ≤ N) (hK : K ≤ 150) (hB : ∀ i, i < K → B i < 256) (hb : holds K B by') (ht : mbytes K B tx) (h : tokR N K by' a at' st so va) : ∃ s, s ≤ K ∧ st = nI s ∧ (stopOk N K by' tx a s at' st so va ∨ stopNo N K by' a s so) := by
  obtain ⟨a', s, tc, h1, h2, rfl, rfl, h5⟩ := h
  refine ⟨s, by omega, rfl, ?_⟩
  have no : ¬ tc = (3 : Int32) → ∀ x y z, ∃ p t w, fX8_readStop N (nI K) (nI a) x y z by' = some ((0 : Int32), p, nI s, t, w) := fun hn x y z => by
    obtain ⟨vc, e1, -⟩ := h5 x y z
    unfold fX8_readStop
    rw [e1, Option.bind_some]
    dsimp only
    rw [if_neg hn]
    exact ⟨_, _, _, rfl⟩
  obtain ⟨vc, e1, e2⟩ := h5 0 0 0
  rcases e2 with ⟨rfl, rfl⟩ | ⟨v, v1, v2, rfl, rfl, rfl⟩ | ⟨v, v1, rfl, rfl, rfl, rfl⟩ | ⟨rfl, rfl⟩ | ⟨rfl, e2⟩
  · exact Or.inr ⟨by decide, no (by decide)⟩
  · refine Or.inr ⟨fun z => ?_, no (by decide)⟩
    have := (nI_eq (b := 2) (by omega) (by omega)).mp z
    omega
  · exact Or.inr ⟨by decide, no (by decide)⟩
  · obtain ⟨at2, st2, so2, va2, d1, d2⟩ := due_yes (N := N) (st := nI s) (so := (2 : Int32)) (va := va) hN hK hB hb ht h2
    refine Or.inl ⟨a', at2, st2, so2, va2, fun x y z => ?_, rfl, d1, h2, d2⟩
    obtain ⟨vc, e1, -⟩ := h5 x y z
    unfold fX8_readStop
    rw [e1, Option.bind_some]
    dsimp only
    rw [if_pos rfl]
    exact ⟨vc, rfl⟩
  · refine Or.inr ⟨?_, no (by decide)⟩
    rcases e2 with rfl | ⟨rfl, -⟩
    · decide
    · decide
end IT
/-! what is told so far -/
def CD (d : MC) (cor str lea : Int32) (fi se ho hm fe : Nat → Int32) : Prop := cor = nI (mcC d) ∧ str = nI (mcS d) ∧ lea = nI (mcL d) ∧ (∀ i, i < mcS d → fi i = nI (mcA d i) ∧ se i = nI (mcB d i) ∧ ho i = nI (mcT d i)) ∧ ∀ i, i < mcL d → hm i = nI (mcH d i) ∧ fe i = nI (mcF d i)
def MD (d : MC) (co st le en ti ho fe : Nat → Int32) : Prop := co 1 = nI (mcC d) ∧ st 1 = nI (mcS d) ∧ le 1 = nI (mcL d) ∧ (∀ i, i < mcS d → en (24 + 2 * i) = nI (mcA d i) ∧ en (25 + 2 * i) = nI (mcB d i) ∧ ti (12 + i) = nI (mcT d i)) ∧ ∀ i, i < mcL d → ho (6 + i) = nI (mcH d i) ∧ fe (6 + i) = nI (mcF d i)
def wfD (d : MC) : Prop := mcC d ≤ 8 ∧ mcS d ≤ 12 ∧ mcL d ≤ 6 ∧ (∀ i, i < mcS d → mcA d i < mcC d ∧ mcB d i < mcC d ∧ mcA d i ≠ mcB d i ∧ 1 ≤ mcT d i ∧ mcT d i ≤ 9) ∧ ∀ i, i < mcL d → mcH d i < mcC d ∧ 1 ≤ mcF d i ∧ mcF d i ≤ 5
/-- the model's city itself stays as it is -/
def mkp (co st le en ti ho fe co' st' le' en' ti' ho' fe' : Nat → Int32) : Prop := co' 0 = co 0 ∧ st' 0 = st 0 ∧ le' 0 = le 0 ∧ (∀ i, i < 24 → en' i = en i) ∧ (∀ i, i < 12 → ti' i = ti i) ∧ ∀ i, i < 6 → ho' i = ho i ∧ fe' i = fe i
theorem mkp_rf {co st le en ti ho fe : Nat → Int32} : mkp co st le en ti ho fe co st le en ti ho fe := ⟨rfl, rfl, rfl, fun _ _ => rfl, fun _ _ => rfl, fun _ _ => ⟨rfl, rfl⟩⟩
theorem mkp_tr {co st le en ti ho fe co' st' le' en' ti' ho' fe' co2 st2 le2 en2 ti2 ho2 fe2 : Nat → Int32} (h : mkp co st le en ti ho fe co' st' le' en' ti' ho' fe') (g : mkp co' st' le' en' ti' ho' fe' co2 st2 le2 en2 ti2 ho2 fe2) : mkp co st le en ti ho fe co2 st2 le2 en2 ti2 ho2 fe2 := by
  obtain ⟨h1, h2, h3, h4, h5, h6⟩ := h
  obtain ⟨g1, g2, g3, g4, g5, g6⟩ := g
  exact ⟨g1.trans h1, g2.trans h2, g3.trans h3, fun i hi => (g4 i hi).trans (h4 i hi), fun i hi => (g5 i hi).trans (h5 i hi), fun i hi => ⟨(g6 i hi).1.trans (h6 i hi).1, (g6 i hi).2.trans (h6 i hi).2⟩⟩
def setC (d : MC) (n : Nat) : MC := (n, mcS d, mcL d, mcA d, mcB d, mcT d, mcH d, mcF d, mcD d)
def addS (d : MC) (a b t : Nat) : MC := (mcC d, mcS d + 1, mcL d, updN (mcA d) (mcS d) a, updN (mcB d) (mcS d) b, updN (mcT d) (mcS d) t, mcH d, mcF d, mcD d)
def addL (d : MC) (h f : Nat) : MC := (mcC d, mcS d, mcL d + 1, mcA d, mcB d, mcT d, updN (mcH d) (mcL d) h, updN (mcF d) (mcL d) f, mcD d)
theorem upN_s (f : Nat → Nat) (k v : Nat) : updN f k v k = v := if_pos rfl
theorem upN_n (f : Nat → Nat) {k i : Nat} (v : Nat) (h : i ≠ k) : updN f k v i = f i := if_neg h
theorem addS_wf {d : MC} {a b t : Nat} (h : wfD d) (hs : mcS d < 12) (ha : a < mcC d) (hb : b < mcC d) (hn : a ≠ b) (h1 : 1 ≤ t) (h9 : t ≤ 9) : wfD (addS d a b t) := by
  refine ⟨h.1, hs, h.2.2.1, fun i hi => ?_, h.2.2.2.2⟩
  have hi : i < mcS d + 1 := hi
  show updN _ _ _ i < mcC d ∧ updN _ _ _ i < mcC d ∧ updN _ _ _ i ≠ updN _ _ _ i ∧ 1 ≤ updN _ _ _ i ∧ updN _ _ _ i ≤ 9
  by_cases e : i = mcS d
  · subst e
    rw [upN_s, upN_s, upN_s]
    exact ⟨ha, hb, hn, h1, h9⟩
  · rw [upN_n _ _ e, upN_n _ _ e, upN_n _ _ e]
    exact h.2.2.2.1 i (by omega)
theorem addL_wf {d : MC} {a f : Nat} (h : wfD d) (hs : mcL d < 6) (ha : a < mcC d) (h1 : 1 ≤ f) (h9 : f ≤ 5) : wfD (addL d a f) := by
  refine ⟨h.1, h.2.1, hs, h.2.2.2.1, fun i hi => ?_⟩
  have hi : i < mcL d + 1 := hi
  show updN _ _ _ i < mcC d ∧ 1 ≤ updN _ _ _ i ∧ updN _ _ _ i ≤ 5
  by_cases e : i = mcL d
  · subst e
    rw [upN_s, upN_s]
    exact ⟨ha, h1, h9⟩
  · rw [upN_n _ _ e, upN_n _ _ e]
    exact h.2.2.2.2 i (by omega)
theorem up_hold {f : Nat → Int32} {g : Nat → Nat} {S v i : Nat} (h : ∀ i, i < S → f i = nI (g i)) (hi : i < S + 1) : upd f S (nI v) i = nI (updN g S v i) := by
  by_cases e : i = S
  · subst e
    rw [pk_us, upN_s]
  · rw [pk_un e, upN_n _ _ e]
    exact h i (by omega)
theorem CD_addS {d : MC} {a b t : Nat} {cor str lea : Int32} {fi se ho hm fe : Nat → Int32} (h : CD d cor str lea fi se ho hm fe) : CD (addS d a b t) cor (nI (mcS d + 1)) lea (upd fi (mcS d) (nI a)) (upd se (mcS d) (nI b)) (upd ho (mcS d) (nI t)) hm fe := by
  obtain ⟨h1, h2, h3, h4, h5⟩ := h
  refine ⟨h1, rfl, h3, fun i hi => ?_, h5⟩
  exact ⟨up_hold (fun i hi => (h4 i hi).1) hi, up_hold (fun i hi => (h4 i hi).2.1) hi, up_hold (fun i hi => (h4 i hi).2.2) hi⟩
theorem CD_addL {d : MC} {a f : Nat} {cor str lea : Int32} {fi se ho hm fe : Nat → Int32} (h : CD d cor str lea fi se ho hm fe) : CD (addL d a f) cor str (nI (mcL d + 1)) fi se ho (upd hm (mcL d) (nI a)) (upd fe (mcL d) (nI f)) := by
  obtain ⟨h1, h2, h3, h4, h5⟩ := h
  refine ⟨h1, h2, rfl, h4, fun i hi => ?_⟩
  exact ⟨up_hold (fun i hi => (h5 i hi).1) hi, up_hold (fun i hi => (h5 i hi).2) hi⟩
theorem up_hold2 {f : Nat → Int32} {g : Nat → Nat} {S v i o k : Nat} (h : ∀ i, i < S → f (o + k * i) = nI (g i)) (hk : 1 ≤ k) (hi : i < S + 1) : upd f (o + k * S) (nI v) (o + k * i) = nI (updN g S v i) := by
  by_cases e : i = S
  · subst e
    rw [pk_us, upN_s]
  · have h1 : k * (i + 1) ≤ k * S := Nat.mul_le_mul_left k (by omega)
    rw [Nat.mul_succ] at h1
    rw [pk_un (by omega), upN_n _ _ e]
    exact h i (by omega)
theorem MD_addS {d : MC} {a b t : Nat} {co st le en ti ho fe : Nat → Int32} (h : MD d co st le en ti ho fe) : MD (addS d a b t) co (upd st 1 (nI (mcS d + 1))) le (upd (upd en (24 + 2 * mcS d) (nI a)) (25 + 2 * mcS d) (nI b)) (upd ti (12 + mcS d) (nI t)) ho fe := by
  obtain ⟨h1, h2, h3, h4, h5⟩ := h
  refine ⟨h1, pk_us, h3, fun i hi => ⟨?_, ?_, ?_⟩, h5⟩
  · have hi : i < mcS d + 1 := hi
    rw [pk_un (show 24 + 2 * i ≠ 25 + 2 * mcS d by omega)]
    exact up_hold2 (k := 2) (fun i hi => (h4 i hi).1) (by omega) hi
  · have hi : i < mcS d + 1 := hi
    exact up_hold2 (k := 2) (fun i hi => by rw [pk_un (show 25 + 2 * i ≠ 24 + 2 * mcS d by omega)]; exact (h4 i hi).2.1) (by omega) hi
  · have hi : i < mcS d + 1 := hi
    have := up_hold2 (f := ti) (g := mcT d) (S := mcS d) (v := t) (i := i) (o := 12) (k := 1) (fun i hi => by rw [Nat.one_mul]; exact (h4 i hi).2.2) (by omega) hi
    rw [Nat.one_mul, Nat.one_mul] at this
    exact this
theorem MD_addL {d : MC} {a f : Nat} {co st le en ti ho fe : Nat → Int32} (h : MD d co st le en ti ho fe) : MD (addL d a f) co st (upd le 1 (nI (mcL d + 1))) en ti (upd ho (6 + mcL d) (nI a)) (upd fe (6 + mcL d) (nI f)) := by
  obtain ⟨h1, h2, h3, h4, h5⟩ := h
  refine ⟨h1, h2, pk_us, h4, fun i hi => ⟨?_, ?_⟩⟩
  · have hi : i < mcL d + 1 := hi
    have := up_hold2 (f := ho) (g := mcH d) (S := mcL d) (v := a) (i := i) (o := 6) (k := 1) (fun i hi => by rw [Nat.one_mul]; exact (h5 i hi).1) (by omega) hi
    rw [Nat.one_mul, Nat.one_mul] at this
    exact this
  · have hi : i < mcL d + 1 := hi
    have := up_hold2 (f := fe) (g := mcF d) (S := mcL d) (v := f) (i := i) (o := 6) (k := 1) (fun i hi => by rw [Nat.one_mul]; exact (h5 i hi).2) (by omega) hi
    rw [Nat.one_mul, Nat.one_mul] at this
    exact this
