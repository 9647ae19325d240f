/-! THE TEXT is read, in both -/
abbrev RT : Type := Int32 × Int32 × Int32 × Int32 × Int32 × Int32 × Int32 × Int32 × (Nat → Int32) × (Nat → Int32) × (Nat → Int32) × (Nat → Int32) × (Nat → Int32)
abbrev MT : Type := Int32 × Int32 × Int32 × Int32 × Int32 × Int32 × Int32 × Int32 × Int32 × (Nat → Int32) × (Nat → Int32) × (Nat → Int32) × (Nat → Int32) × (Nat → Int32) × (Nat → Int32) × (Nat → Int32) × (Nat → Int32) × (Nat → Int32) × (Nat → Int32)
theorem mkp_c {co st le en ti ho fe : Nat → Int32} {v : Int32} : mkp co st le en ti ho fe (upd co 1 v) st le en ti ho fe := ⟨pk_un (by omega), rfl, rfl, fun _ _ => rfl, fun _ _ => rfl, fun _ _ => ⟨rfl, rfl⟩⟩
theorem mkp_s {co st le en ti ho fe : Nat → Int32} {v w1 w2 w3 : Int32} {S : Nat} : mkp co st le en ti ho fe co (upd st 1 v) le (upd (upd en (24 + 2 * S) w1) (25 + 2 * S) w2) (upd ti (12 + S) w3) ho fe := ⟨rfl, pk_un (by omega), rfl, fun i hi => by rw [pk_un (by omega), pk_un (by omega)], fun i hi => pk_un (by omega), fun _ _ => ⟨rfl, rfl⟩⟩
theorem mkp_l {co st le en ti ho fe : Nat → Int32} {v w1 w2 : Int32} {L : Nat} : mkp co st le en ti ho fe co st (upd le 1 v) en ti (upd ho (6 + L) w1) (upd fe (6 + L) w2) := ⟨rfl, rfl, pk_un (by omega), fun _ _ => rfl, fun _ _ => rfl, fun i hi => ⟨pk_un (by omega), pk_un (by omega)⟩⟩
def okOut (N K : Nat) (sn pm : Int32) (far now ik : Nat → Int32) (cl : Option RT) (mo : Option MT) (co st le en ti ho fe : Nat → Int32) : Prop := ∃ (r : Nat) (d : MC) (p q t w cor str lea : Int32) (fi se ch hm cf co' st' le' en' ti' ho' fe' : Nat → Int32) (at2 st2 so2 va2 : Int32), cl = some (nI r, p, q, t, w, cor, str, lea, fi, se, ch, hm, cf) ∧ r ≤ 20 ∧ wfD d ∧ CD d cor str lea fi se ch hm cf ∧ MD d co' st' le' en' ti' ho' fe' ∧ mkp co st le en ti ho fe co' st' le' en' ti' ho' fe' ∧ mo = (fX10_takeDraft N sn pm co' st' en' ti' le' ho' fe' far now ik).bind fun u12 => some (nI r, (0 : Int32), at2, st2, so2, va2, (-9 : Int32), u12.1, u12.2.1, u12.2.2.1, u12.2.2.2.1, u12.2.2.2.2.1, u12.2.2.2.2.2.1, u12.2.2.2.2.2.2.1, u12.2.2.2.2.2.2.2.1, u12.2.2.2.2.2.2.2.2.1, u12.2.2.2.2.2.2.2.2.2.1, u12.2.2.2.2.2.2.2.2.2.2.1, u12.2.2.2.2.2.2.2.2.2.2.2)
def noOut (N K : Nat) (sn pm : Int32) (far now ik : Nat → Int32) (cl : Option RT) (mo : Option MT) (co st le en ti ho fe : Nat → Int32) : Prop := ∃ (s : Nat) (p q t w cor str lea : Int32) (fi se ch hm cf co' st' le' en' ti' ho' fe' : Nat → Int32) (at2 st2 so2 va2 : Int32), s ≤ K ∧ cl = some ((-10 : Int32) - nI s, p, q, t, w, cor, str, lea, fi, se, ch, hm, cf) ∧ mkp co st le en ti ho fe co' st' le' en' ti' ho' fe' ∧ mo = some ((-10 : Int32) - nI s, nI K, at2, st2, so2, va2, nI s, sn, pm, co', st', en', ti', le', ho', fe', far, now, ik)
theorem okOut_tr {N K : Nat} {sn pm : Int32} {far now ik : Nat → Int32} {cl : Option RT} {mo : Option MT} {co st le en ti ho fe co' st' le' en' ti' ho' fe' : Nat → Int32} (g : mkp co st le en ti ho fe co' st' le' en' ti' ho' fe') (h : okOut N K sn pm far now ik cl mo co' st' le' en' ti' ho' fe') : okOut N K sn pm far now ik cl mo co st le en ti ho fe := by
  obtain ⟨r, d, p, q, t, w, cor, str, lea, fi, se, ch, hm, cf, co2, st2, le2, en2, ti2, ho2, fe2, x1, x2, x3, x4, h1, h2, h3, h4, h5, h6, h7⟩ := h
  exact ⟨r, d, p, q, t, w, cor, str, lea, fi, se, ch, hm, cf, co2, st2, le2, en2, ti2, ho2, fe2, x1, x2, x3, x4, h1, h2, h3, h4, h5, mkp_tr g h6, h7⟩
theorem noOut_tr {N K : Nat} {sn pm : Int32} {far now ik : Nat → Int32} {cl : Option RT} {mo : Option MT} {co st le en ti ho fe co' st' le' en' ti' ho' fe' : Nat → Int32} (g : mkp co st le en ti ho fe co' st' le' en' ti' ho' fe') (h : noOut N K sn pm far now ik cl mo co' st' le' en' ti' ho' fe') : noOut N K sn pm far now ik cl mo co st le en ti ho fe := by
  obtain ⟨s, p, q, t, w, cor, str, lea, fi, se, ch, hm, cf, co2, st2, le2, en2, ti2, ho2, fe2, x1, x2, x3, x4, h1, h2, h3, h4⟩ := h
  exact ⟨s, p, q, t, w, cor, str, lea, fi, se, ch, hm, cf, co2, st2, le2, en2, ti2, ho2, fe2, x1, x2, x3, x4, h1, h2, mkp_tr g h3, h4⟩
section CL
variable {N K : Nat} {B : Nat → Nat} {by' tx far now ik : Nat → Int32} {sn pm : Int32}
theorem b21_dead {fv : Nat} {at' sta so va f x1 : Int32} {co st en ti le ho fe : Nat → Int32} (h : ¬ f = (-9 : Int32)) : fX10_city_b21 N tx (fv + 1) (nI K) at' sta so va f sn pm co st en ti le ho fe far now ik x1 = some ((-10 : Int32) - f, nI K, at', sta, so, va, f, sn, pm, co, st, en, ti, le, ho, fe, far, now, ik) := by
  rw [fX10_city_b21, if_neg h]
  unfold fX10_city_b91
  rw [if_neg h]
/-- the model refuses the TOKEN -/
theorem b21_no {fv s : Nat} {at' so va x1 : Int32} {co st en ti le ho fe : Nat → Int32} (hs : s < 2 ^ 31) (h3 : ¬ so = (3 : Int32)) (hm : fX10_mayBe N co st le so = some 0) : fX10_city_b21 N tx (fv + 2) (nI K) at' (nI s) so va (-9 : Int32) sn pm co st en ti le ho fe far now ik x1 = some ((-10 : Int32) - nI s, nI K, at', nI s, so, va, nI s, sn, pm, co, st, en, ti, le, ho, fe, far, now, ik) := by
  rw [fX10_city_b21, if_pos rfl, if_neg h3, hm, Option.bind_some, due_no, Option.bind_some]
  dsimp only
  rw [if_neg (nI_n9 hs)]
  unfold fX10_city_b88
  exact b21_dead (nI_n9 hs)
/-- behind an ITEM -/
theorem b81_no {fv s : Nat} {at' sta so va f x1 : Int32} {co st en ti le ho fe : Nat → Int32} (hs : s < 2 ^ 31) (h : rowNo s sta so f) : ∃ st2 f2, f2 = nI s ∧ (if so = (2 : Int32) then (fX10_city_b81 N tx (fun t_typed t_at t_start t_sort t_value t_fault t_seen t_planMany t_corners t_streets t_ends t_time t_leaders t_home t_feet t_far t_now t_isKept x1 => fX10_city_b21 N tx (fv + 1) t_typed t_at t_start t_sort t_value t_fault t_seen t_planMany t_corners t_streets t_ends t_time t_leaders t_home t_feet t_far t_now t_isKept x1) (nI K) at' sta so va f sn pm co st en ti le ho fe far now ik x1 (1 : Int32)) else (fX10_city_b81 N tx (fun t_typed t_at t_start t_sort t_value t_fault t_seen t_planMany t_corners t_streets t_ends t_time t_leaders t_home t_feet t_far t_now t_isKept x1 => fX10_city_b21 N tx (fv + 1) t_typed t_at t_start t_sort t_value t_fault t_seen t_planMany t_corners t_streets t_ends t_time t_leaders t_home t_feet t_far t_now t_isKept x1) (nI K) at' sta so va f sn pm co st en ti le ho fe far now ik x1 (0 : Int32))) = some ((-10 : Int32) - f2, nI K, at', st2, so, va, f2, sn, pm, co, st, en, ti, le, ho, fe, far, now, ik) := by
  unfold fX10_city_b81 fX10_city_b88
  rcases h with rfl | ⟨rfl, h2, rfl⟩
  · refine ⟨sta, nI s, rfl, ?_⟩
    rw [due_dead (nI_n9 hs), due_dead (nI_n9 hs), Option.bind_some]
    dsimp only
    rw [b21_dead (nI_n9 hs)]
    split <;> rfl
  · refine ⟨nI s, nI s, rfl, ?_⟩
    rw [if_neg h2, due_no, Option.bind_some]
    exact b21_dead (nI_n9 hs)
theorem b81_ok {fv a' : Nat} {at' sta so va f x1 : Int32} {co st en ti le ho fe : Nat → Int32} (h : rowOk N K by' tx a' at' sta so va f) : ∃ at2 st2 so2 va2, a' ≤ K ∧ tokR N K by' a' at2 st2 so2 va2 ∧ (if so = (2 : Int32) then (fX10_city_b81 N tx (fun t_typed t_at t_start t_sort t_value t_fault t_seen t_planMany t_corners t_streets t_ends t_time t_leaders t_home t_feet t_far t_now t_isKept x1 => fX10_city_b21 N tx fv t_typed t_at t_start t_sort t_value t_fault t_seen t_planMany t_corners t_streets t_ends t_time t_leaders t_home t_feet t_far t_now t_isKept x1) (nI K) at' sta so va f sn pm co st en ti le ho fe far now ik x1 (1 : Int32)) else (fX10_city_b81 N tx (fun t_typed t_at t_start t_sort t_value t_fault t_seen t_planMany t_corners t_streets t_ends t_time t_leaders t_home t_feet t_far t_now t_isKept x1 => fX10_city_b21 N tx fv t_typed t_at t_start t_sort t_value t_fault t_seen t_planMany t_corners t_streets t_ends t_time t_leaders t_home t_feet t_far t_now t_isKept x1) (nI K) at' sta so va f sn pm co st en ti le ho fe far now ik x1 (0 : Int32))) = fX10_city_b21 N tx fv (nI K) at2 st2 so2 va2 (-9 : Int32) sn pm co st en ti le ho fe far now ik (x1 + 1) := by
  obtain ⟨at2, st2, so2, va2, rfl, rfl, h3, h4, h5⟩ := h
  refine ⟨at2, st2, so2, va2, h3, h5, ?_⟩
  unfold fX10_city_b81 fX10_city_b88
  rw [if_pos rfl, h4, Option.bind_some]
theorem mayBe_first {co st le : Nat → Int32} {x : Int32} (h : co 1 = nI 0) : fX10_mayBe N co st le x = some (if x = (99 : Int32) then 1 else 0) := by
  unfold fX10_mayBe
  rw [cl1, h, if_pos (show nI 0 = 0 from rfl)]
  split <;> rfl
theorem mayBe_next {co st le : Nat → Int32} {x : Int32} {C S L : Nat} (hC : 1 ≤ C) (hC8 : C ≤ 8) (hS : S ≤ 12) (hL : L ≤ 6) (h : co 1 = nI C) (h2 : st 1 = nI S) (h3 : le 1 = nI L) : fX10_mayBe N co st le x = some (if (x = (115 : Int32) ∧ S < 12) ∨ (x = (108 : Int32) ∧ L < 6) then 1 else 0) := by
  unfold fX10_mayBe
  rw [cl1, h, h2, h3, if_neg (nI_ne0 (by omega) (by omega))]
  by_cases q1 : x = (115 : Int32)
  · rw [if_pos q1]
    by_cases q2 : S < 12
    · rw [if_neg (by rw [show (12 : Int32) = nI 12 from rfl]; exact dj q2 (by omega)), if_pos (Or.inl ⟨q1, q2⟩)]
    · rw [if_pos (by rw [show (12 : Int32) = nI 12 from rfl]; exact nI_le (by omega) (by omega)), if_neg (fun z => by
        rcases z with z | z
        · exact q2 z.2
        · rw [q1] at z
          exact absurd z.1 (by decide))]
  · rw [if_neg q1]
    by_cases q3 : x = (108 : Int32)
    · rw [if_pos q3]
      by_cases q2 : L < 6
      · rw [if_neg (by rw [show (6 : Int32) = nI 6 from rfl]; exact dj q2 (by omega)), if_pos (Or.inr ⟨q3, q2⟩)]
      · rw [if_pos (by rw [show (6 : Int32) = nI 6 from rfl]; exact nI_le (by omega) (by omega)), if_neg (fun z => by
          rcases z with z | z
          · exact q1 z.1
          · exact q2 z.2)]
    · rw [if_neg q3, if_neg (fun z => by
        rcases z with z | z
        · exact q1 z.1
        · exact q3 z.1)]
end CL
