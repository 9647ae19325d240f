/-! the loop over the ITEMS, in both -/
section LP
variable {N K : Nat} {B : Nat → Nat} {by' tx far now ik : Nat → Int32} {sn pm : Int32}
theorem setC_wf {d : MC} {n : Nat} (h : wfD d) (hS : mcS d = 0) (hL : mcL d = 0) (hn : n ≤ 8) : wfD (setC d n) := ⟨hn, h.2.1, h.2.2.1, fun i hi => absurd hi (by show ¬ i < mcS d; omega), fun i hi => absurd hi (by show ¬ i < mcL d; omega)⟩
set_option maxHeartbeats 2000000 in
theorem city_loop (hN : 1000 ≤ N) (hK : K ≤ 150) (hB : ∀ i, i < K → B i < 256) (hb : holds K B by') (ht : mbytes K B tx) : ∀ (j i fu fv : Nat) (d : MC) (a : Nat) (x y z at' sta so va cor str lea : Int32) (fi se ch hm cf co st le en ti ho fe : Nat → Int32), i + j = 20 → j < fu → j + 2 < fv → tokR N K by' a at' sta so va → wfD d → CD d cor str lea fi se ch hm cf → MD d co st le en ti ho fe → ((i = 0 ∧ mcC d = 0 ∧ mcS d = 0 ∧ mcL d = 0) ∨ (1 ≤ i ∧ 1 ≤ mcC d)) → i ≤ 1 + mcS d + mcL d → okOut N K sn pm far now ik (fX8_read_b11 N (nI K) by' fu (nI a) x y z cor str lea fi se ch hm cf (nI i)) (fX10_city_b21 N tx fv (nI K) at' sta so va (-9 : Int32) sn pm co st en ti le ho fe far now ik (nI i)) co st le en ti ho fe ∨ noOut N K sn pm far now ik (fX8_read_b11 N (nI K) by' fu (nI a) x y z cor str lea fi se ch hm cf (nI i)) (fX10_city_b21 N tx fv (nI K) at' sta so va (-9 : Int32) sn pm co st en ti le ho fe far now ik (nI i)) co st le en ti ho fe := by
  intro j
  induction j with
  | zero =>
    intro i fu fv d a x y z at' sta so va cor str lea fi se ch hm cf co st le en ti ho fe h1 h2 h3 h4 hw hcd hmd hi hi2
    have := hw.2.1
    have := hw.2.2.1
    omega
  | succ j ih =>
    intro i fu fv d a x y z at' sta so va cor str lea fi se ch hm cf co st le en ti ho fe h1 h2 h3 h4 hw hcd hmd hi hi2
    obtain ⟨fu, rfl⟩ : ∃ k, fu = k + 1 := ⟨fu - 1, by omega⟩
    obtain ⟨fv, rfl⟩ : ∃ k, fv = k + 2 := ⟨fv - 2, by omega⟩
    have hC8 := hw.1
    have hS12 := hw.2.1
    have hL6 := hw.2.2.1
    obtain ⟨a', s, tc, t1, t2, rfl, rfl, t5⟩ := h4
    obtain ⟨vc, e1, e2⟩ := t5 x y z
    have h150 : ¬ (150 : Int32) ≤ nI i := by rw [show (150 : Int32) = nI 150 from rfl]; exact dj (by omega) (by omega)
    have hcls : ∀ f : Int32, f = (if i = 0 then 1 else 0) → ¬ tc = 0 → fX8_read_b11 N (nI K) by' (fu + 1) (nI a) x y z cor str lea fi se ch hm cf (nI i) = fX8_read_b42 N (nI K) by' (fun t_place t_start t_token t_value p1_corners p1_streets p1_leaders p1_first p1_second p1_hours p1_home p1_feet x2 => fX8_read_b11 N (nI K) by' fu t_place t_start t_token t_value p1_corners p1_streets p1_leaders p1_first p1_second p1_hours p1_home p1_feet x2) (nI a') (nI s) tc vc cor str lea fi se ch hm cf (nI i) f := by
      intro f hf hn
      rw [fX8_read_b11, if_neg h150, e1, Option.bind_some]
      dsimp only
      rw [if_neg hn]
      by_cases q : i = 0
      · rw [hf, if_pos q, if_pos (show nI i = 0 by rw [q]; rfl)]
      · rw [hf, if_neg q, if_neg (nI_ne0 (by omega) (by omega))]
    have refuse : ¬ tc = 0 → ¬ so = (3 : Int32) → fX10_mayBe N co st le so = some 0 → fX8_readItem N (nI K) (nI a') (nI s) tc vc by' cor str lea fi se ch hm cf (if i = 0 then 1 else 0) = some ((0 : Int32), nI a', nI s, tc, vc, cor, str, lea, fi, se, ch, hm, cf) → okOut N K sn pm far now ik (fX8_read_b11 N (nI K) by' (fu + 1) (nI a) x y z cor str lea fi se ch hm cf (nI i)) (fX10_city_b21 N tx (fv + 2) (nI K) (nI a') (nI s) so va (-9 : Int32) sn pm co st en ti le ho fe far now ik (nI i)) co st le en ti ho fe ∨ noOut N K sn pm far now ik (fX8_read_b11 N (nI K) by' (fu + 1) (nI a) x y z cor str lea fi se ch hm cf (nI i)) (fX10_city_b21 N tx (fv + 2) (nI K) (nI a') (nI s) so va (-9 : Int32) sn pm co st en ti le ho fe far now ik (nI i)) co st le en ti ho fe := by
      intro n1 n2 n3 n4
      refine Or.inr ⟨s, nI a', nI s, tc, vc, cor, str, lea, fi, se, ch, hm, cf, co, st, le, en, ti, ho, fe, nI a', nI s, so, va, by omega, ?_, mkp_rf, b21_no (by omega) n2 n3⟩
      rw [hcls _ rfl n1]
      unfold fX8_read_b42
      rw [n4, Option.bind_some]
      dsimp only
      rw [if_pos rfl]
    have mb0 : ¬ so = (99 : Int32) → ¬ so = (115 : Int32) → ¬ so = (108 : Int32) → fX10_mayBe N co st le so = some 0 := by
      intro n1 n2 n3
      rcases hi with ⟨-, hi, -⟩ | ⟨-, hi⟩
      · rw [mayBe_first (by rw [hmd.1, hi]), if_neg n1]
      · rw [mayBe_next hi hC8 hS12 hL6 hmd.1 hmd.2.1 hmd.2.2.1, if_neg (fun z => by
          rcases z with z | z
          · exact n2 z.1
          · exact n3 z.1)]
    have nolet : ¬ tc = (1 : Int32) → ∀ f, fX8_readItem N (nI K) (nI a') (nI s) tc vc by' cor str lea fi se ch hm cf f = some ((0 : Int32), nI a', nI s, tc, vc, cor, str, lea, fi, se, ch, hm, cf) := fun n f => by
      unfold fX8_readItem
      rw [if_neg n]
    rcases e2 with ⟨rfl, rfl⟩ | ⟨v, v1, v2, rfl, rfl, rfl⟩ | ⟨v, v1, rfl, rfl, rfl, rfl⟩ | ⟨rfl, rfl⟩ | ⟨rfl, e2⟩
    · -- the end
      refine Or.inl ⟨i, d, nI a', nI s, 0, vc, cor, str, lea, fi, se, ch, hm, cf, co, st, le, en, ti, ho, fe, nI a', nI s, (3 : Int32), va, ?_, by omega, hw, hcd, hmd, mkp_rf, ?_⟩
      · rw [fX8_read_b11, if_neg h150, e1, Option.bind_some]
        dsimp only
        rw [if_pos rfl]
      · rw [fX10_city_b21, if_pos rfl, if_pos rfl]
        unfold fX10_city_b91
        rw [if_pos rfl]
    · -- a letter
      have n3 : ¬ nI v = (3 : Int32) := nI_nk (k := 3) rfl (by omega) (by omega) (by omega)
      have t1 : ¬ (1 : Int32) = 0 := by decide
      rcases hi with ⟨hi0, hC0, hS0, hL0⟩ | ⟨hi1, hC1⟩
      · have hmb := mayBe_first (N := N) (co := co) (st := st) (le := le) (x := nI v) (by rw [hmd.1, hC0])
        by_cases q99 : v = 99
        · subst q99
          rw [if_pos (show nI 99 = (99 : Int32) from rfl)] at hmb
          obtain ⟨at2, st2, so2, va2, d1, tk2⟩ := due_yes (N := N) (st := nI s) (so := nI 99) (va := va) hN hK hB hb ht t2
          obtain ⟨at3, st3, so3, va3, f3, v', m1, hor⟩ := row_corners (N := N) (cor := cor) (co := co) (st := st) (le := le) (en := en) (ti := ti) (ho := ho) (fe := fe) hN hK hB hb ht tk2
          have m1 : fX10_readRow N (nI K) at2 st2 so2 va2 (-9 : Int32) tx co st en ti le ho fe (nI 99) = _ := m1
          have hm1 : fX10_city_b21 N tx (fv + 2) (nI K) (nI a') (nI s) (nI 99) va (-9 : Int32) sn pm co st en ti le ho fe far now ik (nI i) = (if so3 = (2 : Int32) then (fX10_city_b81 N tx (fun t_typed t_at t_start t_sort t_value t_fault t_seen t_planMany t_corners t_streets t_ends t_time t_leaders t_home t_feet t_far t_now t_isKept x1 => fX10_city_b21 N tx (fv + 1) t_typed t_at t_start t_sort t_value t_fault t_seen t_planMany t_corners t_streets t_ends t_time t_leaders t_home t_feet t_far t_now t_isKept x1) (nI K) at3 st3 so3 va3 f3 sn pm (upd co 1 v') st en ti le ho fe far now ik (nI i) (1 : Int32)) else (fX10_city_b81 N tx (fun t_typed t_at t_start t_sort t_value t_fault t_seen t_planMany t_corners t_streets t_ends t_time t_leaders t_home t_feet t_far t_now t_isKept x1 => fX10_city_b21 N tx (fv + 1) t_typed t_at t_start t_sort t_value t_fault t_seen t_planMany t_corners t_streets t_ends t_time t_leaders t_home t_feet t_far t_now t_isKept x1) (nI K) at3 st3 so3 va3 f3 sn pm (upd co 1 v') st en ti le ho fe far now ik (nI i) (0 : Int32))) := by
            rw [fX10_city_b21, if_pos rfl, if_neg n3, hmb, Option.bind_some, d1, Option.bind_some]
            dsimp only
            rw [if_pos rfl, m1, Option.bind_some]
          rcases hor with ⟨n, a2, n1, n8, rfl, c1, rok⟩ | ⟨s2, hs2, c1, rno⟩
          · obtain ⟨p, t, w, c1⟩ := c1 (nI s) (1 : Int32) (nI 99)
            obtain ⟨at4, st4, so4, va4, ha2, tk4, hb4⟩ := b81_ok (tx := tx) (sn := sn) (pm := pm) (far := far) (now := now) (ik := ik) (fv := fv + 1) (x1 := nI i) (co := upd co 1 (nI n)) (st := st) (le := le) (en := en) (ti := ti) (ho := ho) (fe := fe) rok
            have hc : fX8_read_b11 N (nI K) by' (fu + 1) (nI a) x y z cor str lea fi se ch hm cf (nI i) = fX8_read_b11 N (nI K) by' fu (nI a2) p t w (nI n) str lea fi se ch hm cf (nI (i + 1)) := by
              rw [hcls (1 : Int32) (by rw [if_pos hi0]) t1]
              unfold fX8_read_b42 fX8_readItem
              rw [if_pos rfl, if_pos (show nI 99 = (99 : Int32) from rfl), if_neg t1, c1, Option.bind_some]
              dsimp only
              rw [if_neg t1, Option.bind_some]
              dsimp only
              rw [if_neg t1, nI_1]
            rw [hc, hm1, hb4, nI_1]
            have hr := ih (i + 1) fu (fv + 1) (setC d n) a2 p t w at4 st4 so4 va4 (nI n) str lea fi se ch hm cf (upd co 1 (nI n)) st le en ti ho fe (by omega) (by omega) (by omega) tk4 (setC_wf hw hS0 hL0 n8) ⟨rfl, hcd.2⟩ ⟨pk_us, hmd.2⟩ (Or.inr ⟨by omega, n1⟩) (by show i + 1 ≤ 1 + mcS d + mcL d; omega)
            exact hr.imp (okOut_tr mkp_c) (noOut_tr mkp_c)
          · obtain ⟨p, t, w, r, c1⟩ := c1 (nI s) (1 : Int32) (nI 99)
            obtain ⟨st5, f5, rfl, hb5⟩ := b81_no (N := N) (K := K) (tx := tx) (sn := sn) (pm := pm) (far := far) (now := now) (ik := ik) (fv := fv) (at' := at3) (va := va3) (x1 := nI i) (co := upd co 1 v') (st := st) (le := le) (en := en) (ti := ti) (ho := ho) (fe := fe) (by omega) rno
            refine Or.inr ⟨s2, p, nI s2, t, w, r, str, lea, fi, se, ch, hm, cf, upd co 1 v', st, le, en, ti, ho, fe, at3, st5, so3, va3, hs2, ?_, mkp_c, ?_⟩
            · rw [hcls (1 : Int32) (by rw [if_pos hi0]) t1]
              unfold fX8_read_b42 fX8_readItem
              rw [if_pos rfl, if_pos (show nI 99 = (99 : Int32) from rfl), if_neg t1, c1, Option.bind_some]
              dsimp only
              rw [if_pos rfl, Option.bind_some]
              dsimp only
              rw [if_pos rfl]
            · rw [hm1]
              exact hb5
        · have w99 : ¬ nI v = (99 : Int32) := nI_nk (k := 99) rfl q99 (by omega) (by omega)
          rw [if_neg w99] at hmb
          refine refuse t1 n3 hmb ?_
          unfold fX8_readItem
          rw [if_pos rfl, if_neg w99, if_pos hi0, if_neg t1, if_neg t1]
          split
          · rfl
          · split <;> rfl
      · have hmb := mayBe_next (N := N) (co := co) (st := st) (le := le) (x := nI v) hC1 hC8 hS12 hL6 hmd.1 hmd.2.1 hmd.2.2.1
        have f0 : (if i = 0 then (1 : Int32) else 0) = 0 := if_neg (by omega)
        obtain ⟨rfl, rfl, rfl, hcd4, hcd5⟩ := hcd
        have hcd : CD d (nI (mcC d)) (nI (mcS d)) (nI (mcL d)) fi se ch hm cf := ⟨rfl, rfl, rfl, hcd4, hcd5⟩
        by_cases q99 : v = 99
        · subst q99
          rw [if_neg (fun z => by
            rcases z with z | z
            · exact absurd z.1 (by decide)
            · exact absurd z.1 (by decide))] at hmb
          refine refuse t1 n3 hmb ?_
          unfold fX8_readItem
          rw [if_pos rfl, if_pos (show nI 99 = (99 : Int32) from rfl), f0, if_pos rfl]
        have w99 : ¬ nI v = (99 : Int32) := nI_nk (k := 99) rfl q99 (by omega) (by omega)
        by_cases q108 : v = 108
        · subst q108
          have w108 : nI 108 = (108 : Int32) := rfl
          by_cases qL : mcL d < 6
          · rw [if_pos (Or.inr ⟨rfl, qL⟩)] at hmb
            obtain ⟨at2, st2, so2, va2, d1, tk2⟩ := due_yes (N := N) (st := nI s) (so := nI 108) (va := va) hN hK hB hb ht t2
            obtain ⟨at3, st3, so3, va3, f3, w1, w2, m1, hor⟩ := row_leader (N := N) (hm := hm) (fe' := cf) (co := co) (st := st) (le := le) (en := en) (ti := ti) (ho := ho) (fe := fe) hN hK hB hb ht tk2 hC1 hC8 qL hmd.1 hmd.2.2.1
            have m1 : fX10_readRow N (nI K) at2 st2 so2 va2 (-9 : Int32) tx co st en ti le ho fe (nI 108) = _ := m1
            have hm1 : fX10_city_b21 N tx (fv + 2) (nI K) (nI a') (nI s) (nI 108) va (-9 : Int32) sn pm co st en ti le ho fe far now ik (nI i) = (if so3 = (2 : Int32) then (fX10_city_b81 N tx (fun t_typed t_at t_start t_sort t_value t_fault t_seen t_planMany t_corners t_streets t_ends t_time t_leaders t_home t_feet t_far t_now t_isKept x1 => fX10_city_b21 N tx (fv + 1) t_typed t_at t_start t_sort t_value t_fault t_seen t_planMany t_corners t_streets t_ends t_time t_leaders t_home t_feet t_far t_now t_isKept x1) (nI K) at3 st3 so3 va3 f3 sn pm co st en ti (upd le 1 (nI (mcL d + 1))) (upd ho (6 + mcL d) w1) (upd fe (6 + mcL d) w2) far now ik (nI i) (1 : Int32)) else (fX10_city_b81 N tx (fun t_typed t_at t_start t_sort t_value t_fault t_seen t_planMany t_corners t_streets t_ends t_time t_leaders t_home t_feet t_far t_now t_isKept x1 => fX10_city_b21 N tx (fv + 1) t_typed t_at t_start t_sort t_value t_fault t_seen t_planMany t_corners t_streets t_ends t_time t_leaders t_home t_feet t_far t_now t_isKept x1) (nI K) at3 st3 so3 va3 f3 sn pm co st en ti (upd le 1 (nI (mcL d + 1))) (upd ho (6 + mcL d) w1) (upd fe (6 + mcL d) w2) far now ik (nI i) (0 : Int32))) := by
              rw [fX10_city_b21, if_pos rfl, if_neg n3, hmb, Option.bind_some, d1, Option.bind_some]
              dsimp only
              rw [if_pos rfl, m1, Option.bind_some]
            have hl6 : ¬ (6 : Int32) ≤ nI (mcL d) := by rw [show (6 : Int32) = nI 6 from rfl]; exact dj qL (by omega)
            rcases hor with ⟨x1, x2, a2, y1, y2, y3, rfl, rfl, c1, rok⟩ | ⟨s2, hs2, c1, rno⟩
            · obtain ⟨p, t, w, c1⟩ := c1 (nI s) (1 : Int32) (nI 108)
              obtain ⟨at4, st4, so4, va4, ha2, tk4, hb4⟩ := b81_ok (tx := tx) (sn := sn) (pm := pm) (far := far) (now := now) (ik := ik) (fv := fv + 1) (x1 := nI i) (co := co) (st := st) (le := upd le 1 (nI (mcL d + 1))) (en := en) (ti := ti) (ho := upd ho (6 + mcL d) (nI x1)) (fe := upd fe (6 + mcL d) (nI x2)) rok
              have hc : fX8_read_b11 N (nI K) by' (fu + 1) (nI a) x y z (nI (mcC d)) (nI (mcS d)) (nI (mcL d)) fi se ch hm cf (nI i) = fX8_read_b11 N (nI K) by' fu (nI a2) p t w (nI (mcC d)) (nI (mcS d)) (nI (mcL d + 1)) fi se ch (upd hm (mcL d) (nI x1)) (upd cf (mcL d) (nI x2)) (nI (i + 1)) := by
                rw [hcls 0 f0.symm t1]
                unfold fX8_read_b42 fX8_readItem
                rw [if_pos rfl, if_neg w99, if_pos w108, if_pos rfl, if_neg hl6, c1, Option.bind_some]
                dsimp only
                rw [if_neg t1, Option.bind_some]
                dsimp only
                rw [if_neg t1, nI_1]
              rw [hc, hm1, hb4, nI_1]
              have hr := ih (i + 1) fu (fv + 1) (addL d x1 x2) a2 p t w at4 st4 so4 va4 (nI (mcC d)) (nI (mcS d)) (nI (mcL d + 1)) fi se ch (upd hm (mcL d) (nI x1)) (upd cf (mcL d) (nI x2)) co st (upd le 1 (nI (mcL d + 1))) en ti (upd ho (6 + mcL d) (nI x1)) (upd fe (6 + mcL d) (nI x2)) (by omega) (by omega) (by omega) tk4 (addL_wf hw qL y1 y2 y3) (CD_addL hcd) (MD_addL hmd) (Or.inr ⟨by omega, hC1⟩) (by show i + 1 ≤ 1 + mcS d + (mcL d + 1); omega)
              exact hr.imp (okOut_tr mkp_l) (noOut_tr mkp_l)
            · obtain ⟨p, t, w, r1, r2, r3, c1⟩ := c1 (nI s) (1 : Int32) (nI 108)
              obtain ⟨st5, f5, rfl, hb5⟩ := b81_no (N := N) (K := K) (tx := tx) (sn := sn) (pm := pm) (far := far) (now := now) (ik := ik) (fv := fv) (at' := at3) (va := va3) (x1 := nI i) (co := co) (st := st) (le := upd le 1 (nI (mcL d + 1))) (en := en) (ti := ti) (ho := upd ho (6 + mcL d) w1) (fe := upd fe (6 + mcL d) w2) (by omega) rno
              refine Or.inr ⟨s2, p, nI s2, t, w, nI (mcC d), nI (mcS d), r1, fi, se, ch, r2, r3, co, st, upd le 1 (nI (mcL d + 1)), en, ti, upd ho (6 + mcL d) w1, upd fe (6 + mcL d) w2, at3, st5, so3, va3, hs2, ?_, mkp_l, ?_⟩
              · rw [hcls 0 f0.symm t1]
                unfold fX8_read_b42 fX8_readItem
                rw [if_pos rfl, if_neg w99, if_pos w108, if_pos rfl, if_neg hl6, c1, Option.bind_some]
                dsimp only
                rw [if_pos rfl, Option.bind_some]
                dsimp only
                rw [if_pos rfl]
              · rw [hm1]
                exact hb5
          · rw [if_neg (fun z => by
              rcases z with z | z
              · exact absurd z.1 (by decide)
              · exact qL z.2)] at hmb
            refine refuse t1 n3 hmb ?_
            unfold fX8_readItem
            rw [if_pos rfl, if_neg w99, if_pos w108, f0, if_pos rfl, if_pos (by rw [show (6 : Int32) = nI 6 from rfl]; exact nI_le (by omega) (by omega))]
        have w108 : ¬ nI v = (108 : Int32) := nI_nk (k := 108) rfl q108 (by omega) (by omega)
        by_cases q115 : v = 115
        · subst q115
          have w115 : nI 115 = (115 : Int32) := rfl
          by_cases qS : mcS d < 12
          · rw [if_pos (Or.inl ⟨rfl, qS⟩)] at hmb
            obtain ⟨at2, st2, so2, va2, d1, tk2⟩ := due_yes (N := N) (st := nI s) (so := nI 115) (va := va) hN hK hB hb ht t2
            obtain ⟨at3, st3, so3, va3, f3, w1, w2, w3, m1, hor⟩ := row_street (N := N) (fi := fi) (se := se) (hr := ch) (co := co) (st := st) (le := le) (en := en) (ti := ti) (ho := ho) (fe := fe) hN hK hB hb ht tk2 hC1 hC8 qS hmd.1 hmd.2.1
            have m1 : fX10_readRow N (nI K) at2 st2 so2 va2 (-9 : Int32) tx co st en ti le ho fe (nI 115) = _ := m1
            have hm1 : fX10_city_b21 N tx (fv + 2) (nI K) (nI a') (nI s) (nI 115) va (-9 : Int32) sn pm co st en ti le ho fe far now ik (nI i) = (if so3 = (2 : Int32) then (fX10_city_b81 N tx (fun t_typed t_at t_start t_sort t_value t_fault t_seen t_planMany t_corners t_streets t_ends t_time t_leaders t_home t_feet t_far t_now t_isKept x1 => fX10_city_b21 N tx (fv + 1) t_typed t_at t_start t_sort t_value t_fault t_seen t_planMany t_corners t_streets t_ends t_time t_leaders t_home t_feet t_far t_now t_isKept x1) (nI K) at3 st3 so3 va3 f3 sn pm co (upd st 1 (nI (mcS d + 1))) (upd (upd en (24 + 2 * mcS d) w1) (25 + 2 * mcS d) w2) (upd ti (12 + mcS d) w3) le ho fe far now ik (nI i) (1 : Int32)) else (fX10_city_b81 N tx (fun t_typed t_at t_start t_sort t_value t_fault t_seen t_planMany t_corners t_streets t_ends t_time t_leaders t_home t_feet t_far t_now t_isKept x1 => fX10_city_b21 N tx (fv + 1) t_typed t_at t_start t_sort t_value t_fault t_seen t_planMany t_corners t_streets t_ends t_time t_leaders t_home t_feet t_far t_now t_isKept x1) (nI K) at3 st3 so3 va3 f3 sn pm co (upd st 1 (nI (mcS d + 1))) (upd (upd en (24 + 2 * mcS d) w1) (25 + 2 * mcS d) w2) (upd ti (12 + mcS d) w3) le ho fe far now ik (nI i) (0 : Int32))) := by
              rw [fX10_city_b21, if_pos rfl, if_neg n3, hmb, Option.bind_some, d1, Option.bind_some]
              dsimp only
              rw [if_pos rfl, m1, Option.bind_some]
            have hs12 : ¬ (12 : Int32) ≤ nI (mcS d) := by rw [show (12 : Int32) = nI 12 from rfl]; exact dj qS (by omega)
            rcases hor with ⟨x1, x2, x3, a2, y1, y2, y3, y4, y5, rfl, rfl, rfl, c1, rok⟩ | ⟨s2, hs2, c1, rno⟩
            · obtain ⟨p, t, w, c1⟩ := c1 (nI s) (1 : Int32) (nI 115)
              obtain ⟨at4, st4, so4, va4, ha2, tk4, hb4⟩ := b81_ok (tx := tx) (sn := sn) (pm := pm) (far := far) (now := now) (ik := ik) (fv := fv + 1) (x1 := nI i) (co := co) (st := upd st 1 (nI (mcS d + 1))) (le := le) (en := upd (upd en (24 + 2 * mcS d) (nI x1)) (25 + 2 * mcS d) (nI x2)) (ti := upd ti (12 + mcS d) (nI x3)) (ho := ho) (fe := fe) rok
              have hc : fX8_read_b11 N (nI K) by' (fu + 1) (nI a) x y z (nI (mcC d)) (nI (mcS d)) (nI (mcL d)) fi se ch hm cf (nI i) = fX8_read_b11 N (nI K) by' fu (nI a2) p t w (nI (mcC d)) (nI (mcS d + 1)) (nI (mcL d)) (upd fi (mcS d) (nI x1)) (upd se (mcS d) (nI x2)) (upd ch (mcS d) (nI x3)) hm cf (nI (i + 1)) := by
                rw [hcls 0 f0.symm t1]
                unfold fX8_read_b42 fX8_readItem
                rw [if_pos rfl, if_neg w99, if_neg w108, if_pos w115, if_pos rfl, if_neg hs12, c1, Option.bind_some]
                dsimp only
                rw [if_neg t1, Option.bind_some]
                dsimp only
                rw [if_neg t1, nI_1]
              rw [hc, hm1, hb4, nI_1]
              have hr := ih (i + 1) fu (fv + 1) (addS d x1 x2 x3) a2 p t w at4 st4 so4 va4 (nI (mcC d)) (nI (mcS d + 1)) (nI (mcL d)) (upd fi (mcS d) (nI x1)) (upd se (mcS d) (nI x2)) (upd ch (mcS d) (nI x3)) hm cf co (upd st 1 (nI (mcS d + 1))) le (upd (upd en (24 + 2 * mcS d) (nI x1)) (25 + 2 * mcS d) (nI x2)) (upd ti (12 + mcS d) (nI x3)) ho fe (by omega) (by omega) (by omega) tk4 (addS_wf hw qS y1 y2 y3 y4 y5) (CD_addS hcd) (MD_addS hmd) (Or.inr ⟨by omega, hC1⟩) (by show i + 1 ≤ 1 + (mcS d + 1) + mcL d; omega)
              exact hr.imp (okOut_tr mkp_s) (noOut_tr mkp_s)
            · obtain ⟨p, t, w, r1, r2, r3, r4, c1⟩ := c1 (nI s) (1 : Int32) (nI 115)
              obtain ⟨st5, f5, rfl, hb5⟩ := b81_no (N := N) (K := K) (tx := tx) (sn := sn) (pm := pm) (far := far) (now := now) (ik := ik) (fv := fv) (at' := at3) (va := va3) (x1 := nI i) (co := co) (st := upd st 1 (nI (mcS d + 1))) (le := le) (en := upd (upd en (24 + 2 * mcS d) w1) (25 + 2 * mcS d) w2) (ti := upd ti (12 + mcS d) w3) (ho := ho) (fe := fe) (by omega) rno
              refine Or.inr ⟨s2, p, nI s2, t, w, nI (mcC d), r1, nI (mcL d), r2, r3, r4, hm, cf, co, upd st 1 (nI (mcS d + 1)), le, upd (upd en (24 + 2 * mcS d) w1) (25 + 2 * mcS d) w2, upd ti (12 + mcS d) w3, ho, fe, at3, st5, so3, va3, hs2, ?_, mkp_s, ?_⟩
              · rw [hcls 0 f0.symm t1]
                unfold fX8_read_b42 fX8_readItem
                rw [if_pos rfl, if_neg w99, if_neg w108, if_pos w115, if_pos rfl, if_neg hs12, c1, Option.bind_some]
                dsimp only
                rw [if_pos rfl, Option.bind_some]
                dsimp only
                rw [if_pos rfl]
              · rw [hm1]
                exact hb5
          · rw [if_neg (fun z => by
              rcases z with z | z
              · exact qS z.2
              · exact absurd z.1 (by decide))] at hmb
            refine refuse t1 n3 hmb ?_
            unfold fX8_readItem
            rw [if_pos rfl, if_neg w99, if_neg w108, if_pos w115, f0, if_pos rfl, if_pos (by rw [show (12 : Int32) = nI 12 from rfl]; exact nI_le (by omega) (by omega))]
        have w115 : ¬ nI v = (115 : Int32) := nI_nk (k := 115) rfl q115 (by omega) (by omega)
        rw [if_neg (fun z => by
          rcases z with z | z
          · exact w115 z.1
          · exact w108 z.1)] at hmb
        refine refuse t1 n3 hmb ?_
        unfold fX8_readItem
        rw [if_pos rfl, if_neg w99, if_neg w108, if_neg w115]
    · exact refuse (by decide) (by decide) (mb0 (by decide) (by decide) (by decide)) (nolet (by decide) _)
    · exact refuse (by decide) (by decide) (mb0 (by decide) (by decide) (by decide)) (nolet (by decide) _)
    · rcases e2 with rfl | ⟨rfl, v, v1, v2, rfl⟩
      · exact refuse (by decide) (by decide) (mb0 (by decide) (by decide) (by decide)) (nolet (by decide) _)
      · exact refuse (by decide) (by decide) (mb0 (by decide) (by decide) (by decide)) (nolet (by decide) _)
end LP
