def wX0_empty (cI cB cZ cM cJ cK : ClassId) (a_t a_t_first a_t_second a_t_hours a_t_home a_t_feet a_t_far : Nat) (t_corners t_streets t_leaders : Int32) : List va_W := [[(a_t, .inr (0, [.int t_corners, .int t_streets, .int t_leaders, .ref a_t_first, .ref a_t_second, .ref a_t_hours, .ref a_t_home, .ref a_t_feet, .ref a_t_far]))]]
def rmX0_empty : Room := { frames := 0, cells := 0, slots := 0, locals := 0 }
theorem kX0_empty_1 : Cond.fieldLink RX0 32 "FeastMarch$City" "corners" "I" ∈ wsX0_empty := List.mem_of_getElem? (i := 1) rfl
theorem kX0_empty_2 : Cond.fieldLink RX0 36 "FeastMarch$City" "streets" "I" ∈ wsX0_empty := List.mem_of_getElem? (i := 2) rfl
theorem kX0_empty_3 : Cond.fieldLink RX0 39 "FeastMarch$City" "leaders" "I" ∈ wsX0_empty := List.mem_of_getElem? (i := 3) rfl
theorem iX0_empty_X0 : ∀ w ∈ wsX00, w ∈ wsX0_empty := fun _ h => List.mem_cons_of_mem _ (List.mem_append_right _ h)
theorem n_X0_empty : yX0_empty.cls = RX0 ∧ yX0_empty.cls ≠ "java/lang/invoke/MethodHandle" ∧ yX0_empty.cls ≠ "java/lang/invoke/VarHandle" ∧ (parseMethodDescriptor yX0_empty.desc).map (fun d => d.parameters.length) = some 0 := by decide +kernel
set_option maxHeartbeats 4000000 in
set_option maxRecDepth 100000 in
theorem c_X0_empty (l : Launch) (D : va_G) (N : Nat) (cI cB cZ cM cJ cK : ClassId) (a_t a_t_first a_t_second a_t_hours a_t_home a_t_feet a_t_far : Nat) (t_corners t_streets t_leaders : Int32) : gM l yX0_empty wsX0_empty rmX0_empty D (gT cI cB cZ cM cJ cK) (wX0_empty cI cB cZ cM cJ cK  a_t a_t_first a_t_second a_t_hours a_t_home a_t_feet a_t_far t_corners t_streets t_leaders) [.ref a_t] (fX0_empty N t_corners t_streets t_leaders) (fun _u : Int32 × Int32 × Int32 => none) (fun _u : Int32 × Int32 × Int32 => (wX0_empty cI cB cZ cM cJ cK  a_t a_t_first a_t_second a_t_hours a_t_home a_t_feet a_t_far _u.1 _u.2.1 _u.2.2)) := by
  refine g_start (cc := cX0_empty) (maxL := 1) (ret := none) (by decide) rfl (Nat.le_of_ble_eq_true rfl) ?_
  intro F hf hF p e s m below meth c A ls S hK hA Wd hr hlk hnm hl
  refine lv_aload_n S.1 S.2.1 dX0_empty_0 rfl (lv_at hl 0 rfl) ?_
  refine lv_iconst (v := 0) S.1 S.2.1 dX0_empty_1 (by decide) ?_
  refine g_put (a := a_t) (ws' := (wX0_empty cI cB cZ cM cJ cK  a_t a_t_first a_t_second a_t_hours a_t_home a_t_feet a_t_far (0 : Int32) t_streets t_leaders)) S hK Wd iX0_empty_X0 tyX0 tyX0_ok nmX0 0 rfl rfl 0 rfl rfl kX0_empty_1 rfl rfl rfl dX0_empty_2 rfl (fun H locs Wd => ?_)
  refine lv_aload_n S.1 S.2.1 dX0_empty_5 rfl (lv_at hl 0 rfl) ?_
  refine lv_iconst (v := 0) S.1 S.2.1 dX0_empty_6 (by decide) ?_
  refine g_put (a := a_t) (ws' := (wX0_empty cI cB cZ cM cJ cK  a_t a_t_first a_t_second a_t_hours a_t_home a_t_feet a_t_far (0 : Int32) (0 : Int32) t_leaders)) S hK Wd iX0_empty_X0 tyX0 tyX0_ok nmX0 0 rfl rfl 1 rfl rfl kX0_empty_2 rfl rfl rfl dX0_empty_7 rfl (fun H locs Wd => ?_)
  refine lv_aload_n S.1 S.2.1 dX0_empty_10 rfl (lv_at hl 0 rfl) ?_
  refine lv_iconst (v := 0) S.1 S.2.1 dX0_empty_11 (by decide) ?_
  refine g_put (a := a_t) (ws' := (wX0_empty cI cB cZ cM cJ cK  a_t a_t_first a_t_second a_t_hours a_t_home a_t_feet a_t_far (0 : Int32) (0 : Int32) (0 : Int32))) S hK Wd iX0_empty_X0 tyX0 tyX0_ok nmX0 0 rfl rfl 2 rfl rfl kX0_empty_3 rfl rfl rfl dX0_empty_12 rfl (fun H locs Wd => ?_)
  exact g_vret S Wd hr hlk dX0_empty_15 ((0 : Int32), (0 : Int32), (0 : Int32)) hf rfl rfl
def wX0_hasCorner (cI cB cZ cM cJ cK : ClassId) (a_t a_t_first a_t_second a_t_hours a_t_home a_t_feet a_t_far : Nat) (t_corners t_streets t_leaders : Int32) : List va_W := [[(a_t, .inr (0, [.int t_corners, .int t_streets, .int t_leaders, .ref a_t_first, .ref a_t_second, .ref a_t_hours, .ref a_t_home, .ref a_t_feet, .ref a_t_far]))]]
def rmX0_hasCorner : Room := { frames := 0, cells := 0, slots := 0, locals := 0 }
theorem kX0_hasCorner_1 : Cond.fieldLink RX0 32 "FeastMarch$City" "corners" "I" ∈ wsX0_hasCorner := List.mem_of_getElem? (i := 1) rfl
theorem iX0_hasCorner_X0 : ∀ w ∈ wsX00, w ∈ wsX0_hasCorner := fun _ h => List.mem_cons_of_mem _ (List.mem_append_right _ h)
theorem n_X0_hasCorner : yX0_hasCorner.cls = RX0 ∧ yX0_hasCorner.cls ≠ "java/lang/invoke/MethodHandle" ∧ yX0_hasCorner.cls ≠ "java/lang/invoke/VarHandle" ∧ (parseMethodDescriptor yX0_hasCorner.desc).map (fun d => d.parameters.length) = some 1 := by decide +kernel
set_option maxHeartbeats 4000000 in
set_option maxRecDepth 100000 in
theorem c_X0_hasCorner (l : Launch) (D : va_G) (N : Nat) (cI cB cZ cM cJ cK : ClassId) (a_t a_t_first a_t_second a_t_hours a_t_home a_t_feet a_t_far : Nat) (t_corners t_streets t_leaders x1 : Int32) : gM l yX0_hasCorner wsX0_hasCorner rmX0_hasCorner D (gT cI cB cZ cM cJ cK) (wX0_hasCorner cI cB cZ cM cJ cK  a_t a_t_first a_t_second a_t_hours a_t_home a_t_feet a_t_far t_corners t_streets t_leaders) [.ref a_t, .int x1] (fX0_hasCorner N t_corners x1) (fun _u : Int32 => some (.int _u)) (fun _u : Int32 => (wX0_hasCorner cI cB cZ cM cJ cK  a_t a_t_first a_t_second a_t_hours a_t_home a_t_feet a_t_far t_corners t_streets t_leaders)) := by
  refine g_start (cc := cX0_hasCorner) (maxL := 2) (ret := (some .boolean)) (by decide) rfl (Nat.le_of_ble_eq_true rfl) ?_
  intro F hf hF p e s m below meth c A ls S hK hA Wd hr hlk hnm hl
  refine lv_iload_n S.1 S.2.1 dX0_hasCorner_0 rfl (lv_at hl 1 rfl) ?_
  refine lv_if_lt (tgt := 16) S.1 S.2.1 dX0_hasCorner_1 rfl (fun c1 => ?_) (fun c1 => ?_)
  · have hf := g_if hf c1
    refine lv_iconst (v := 0) S.1 S.2.1 dX0_hasCorner_16 (by decide) ?_
    exact g_zret S Wd hr hlk rfl dX0_hasCorner_17 (0 : Int32) hf rfl rfl
  · have hf := g_ifn hf c1
    refine lv_iload_n S.1 S.2.1 dX0_hasCorner_4 rfl (lv_at hl 1 rfl) ?_
    refine lv_aload_n S.1 S.2.1 dX0_hasCorner_5 rfl (lv_at hl 0 rfl) ?_
    refine g_get (a := a_t) S hK Wd iX0_hasCorner_X0 0 rfl rfl 0 rfl rfl kX0_hasCorner_1 rfl dX0_hasCorner_6 ?_
    refine lv_icmp_ge (tgt := 16) S.1 S.2.1 dX0_hasCorner_9 rfl (fun c2 => ?_) (fun c2 => ?_)
    · have hf := g_if hf c2
      refine lv_iconst (v := 0) S.1 S.2.1 dX0_hasCorner_16 (by decide) ?_
      exact g_zret S Wd hr hlk rfl dX0_hasCorner_17 (0 : Int32) hf rfl rfl
    · have hf := g_ifn hf c2
      refine lv_iconst (v := 1) S.1 S.2.1 dX0_hasCorner_12 (by decide) ?_
      refine lv_goto (tgt := 17) S.1 S.2.1 dX0_hasCorner_13 rfl ?_
      exact g_zret S Wd hr hlk rfl dX0_hasCorner_17 (1 : Int32) hf rfl rfl
def wX0_addStreet (cI cB cZ cM cJ cK : ClassId) (a_t a_t_first a_t_second a_t_hours a_t_home a_t_feet a_t_far : Nat) (t_corners t_streets t_leaders : Int32) (t_first t_second t_hours : Nat → Int32) : List va_W := [[(a_t, .inr (0, [.int t_corners, .int t_streets, .int t_leaders, .ref a_t_first, .ref a_t_second, .ref a_t_hours, .ref a_t_home, .ref a_t_feet, .ref a_t_far]))], [(a_t_first, .inl (cI, 12, .inl t_first))], [(a_t_second, .inl (cI, 12, .inl t_second))], [(a_t_hours, .inl (cI, 12, .inl t_hours))]]
def rmX0_addStreet : Room := { frames := 1, cells := 0, slots := 0, locals := 21 }
theorem kX0_addStreet_1 : Cond.fieldLink RX0 36 "FeastMarch$City" "streets" "I" ∈ wsX0_addStreet := List.mem_of_getElem? (i := 1) rfl
theorem kX0_addStreet_2 : Cond.fieldLink RX0 9 "FeastMarch$City" "first" "[I" ∈ wsX0_addStreet := List.mem_of_getElem? (i := 2) rfl
theorem kX0_addStreet_3 : Cond.fieldLink RX0 15 "FeastMarch$City" "second" "[I" ∈ wsX0_addStreet := List.mem_of_getElem? (i := 3) rfl
theorem kX0_addStreet_4 : Cond.fieldLink RX0 18 "FeastMarch$City" "hours" "[I" ∈ wsX0_addStreet := List.mem_of_getElem? (i := 4) rfl
theorem iX0_addStreet_X0 : ∀ w ∈ wsX00, w ∈ wsX0_addStreet := fun _ h => List.mem_cons_of_mem _ (List.mem_append_right _ h)
theorem n_X0_addStreet : yX0_addStreet.cls = RX0 ∧ yX0_addStreet.cls ≠ "java/lang/invoke/MethodHandle" ∧ yX0_addStreet.cls ≠ "java/lang/invoke/VarHandle" ∧ (parseMethodDescriptor yX0_addStreet.desc).map (fun d => d.parameters.length) = some 3 := by decide +kernel
set_option maxHeartbeats 4000000 in
set_option maxRecDepth 100000 in
theorem c_X0_addStreet (l : Launch) (D : va_G) (N : Nat) (cI cB cZ cM cJ cK : ClassId) (a_t a_t_first a_t_second a_t_hours a_t_home a_t_feet a_t_far : Nat) (t_corners t_streets t_leaders : Int32) (t_first t_second t_hours : Nat → Int32) (x1 x2 x3 : Int32) : gM l yX0_addStreet wsX0_addStreet rmX0_addStreet D (gT cI cB cZ cM cJ cK) (wX0_addStreet cI cB cZ cM cJ cK  a_t a_t_first a_t_second a_t_hours a_t_home a_t_feet a_t_far t_corners t_streets t_leaders t_first t_second t_hours) [.ref a_t, .int x1, .int x2, .int x3] (fX0_addStreet N t_corners t_streets t_first t_second t_hours x1 x2 x3) (fun _u : Int32 × (Nat → Int32) × (Nat → Int32) × (Nat → Int32) => none) (fun _u : Int32 × (Nat → Int32) × (Nat → Int32) × (Nat → Int32) => (wX0_addStreet cI cB cZ cM cJ cK  a_t a_t_first a_t_second a_t_hours a_t_home a_t_feet a_t_far t_corners _u.1 t_leaders _u.2.1 _u.2.2.1 _u.2.2.2)) := by
  refine g_start (cc := cX0_addStreet) (maxL := 4) (ret := none) (by decide) rfl (Nat.le_of_ble_eq_true rfl) ?_
  intro F hf hF p e s m below meth c A ls S hK hA Wd hr hlk hnm hl
  refine lv_aload_n S.1 S.2.1 dX0_addStreet_0 rfl (lv_at hl 0 rfl) ?_
  refine g_get (a := a_t) S hK Wd iX0_addStreet_X0 0 rfl rfl 1 rfl rfl kX0_addStreet_1 rfl dX0_addStreet_1 ?_
  refine lv_bipush (v := 12) S.1 S.2.1 dX0_addStreet_4 (by decide) ?_
  refine lv_icmp_ge (tgt := 65) S.1 S.2.1 dX0_addStreet_6 rfl (fun c1 => ?_) (fun c1 => ?_)
  · have hf := g_if hf c1
    exact g_vret S Wd hr hlk dX0_addStreet_65 (t_streets, t_first, t_second, t_hours) hf rfl rfl
  · have hf := g_ifn hf c1
    refine lv_aload_n S.1 S.2.1 dX0_addStreet_9 rfl (lv_at hl 0 rfl) ?_
    refine lv_iload_n S.1 S.2.1 dX0_addStreet_10 rfl (lv_at hl 1 rfl) ?_
    obtain ⟨u2, hu2, hf⟩ := g_bind hF hf
    refine g_callV (ws' := (wX0_addStreet cI cB cZ cM cJ cK  a_t a_t_first a_t_second a_t_hours a_t_home a_t_feet a_t_far t_corners t_streets t_leaders t_first t_second t_hours)) (As := [.int x1]) (rest := []) (st1 := [.int u2]) S hK hA Wd (c_X0_hasCorner l D N cI cB cZ cM cJ cK a_t a_t_first a_t_second a_t_hours a_t_home a_t_feet a_t_far t_corners t_streets t_leaders x1) (cwV 1 S.2.2.2.2 gX0_addStreet_X0_hasCorner rfl rfl rfl n_X0_hasCorner ⟨Nat.le_of_ble_eq_true rfl, Nat.le_of_ble_eq_true rfl⟩) hu2 [0] rfl rfl 0 0 rfl rfl rfl rfl rfl rfl rfl hl.1 rfl (Nat.le_of_ble_eq_true rfl) dX0_addStreet_11 ⟨Nat.zero_le _, Nat.zero_le _⟩ (fun H locs Wd => ?_)
    refine lv_if_eq (tgt := 65) S.1 S.2.1 dX0_addStreet_14 rfl (fun c3 => ?_) (fun c3 => ?_)
    · have hf := g_if hf c3
      exact g_vret S Wd hr hlk dX0_addStreet_65 (t_streets, t_first, t_second, t_hours) hf rfl rfl
    · have hf := g_ifn hf c3
      refine lv_aload_n S.1 S.2.1 dX0_addStreet_17 rfl (lv_at hl 0 rfl) ?_
      refine lv_iload_n S.1 S.2.1 dX0_addStreet_18 rfl (lv_at hl 2 rfl) ?_
      obtain ⟨u4, hu4, hf⟩ := g_bind hF hf
      refine g_callV (ws' := (wX0_addStreet cI cB cZ cM cJ cK  a_t a_t_first a_t_second a_t_hours a_t_home a_t_feet a_t_far t_corners t_streets t_leaders t_first t_second t_hours)) (As := [.int x2]) (rest := []) (st1 := [.int u4]) S hK hA Wd (c_X0_hasCorner l D N cI cB cZ cM cJ cK a_t a_t_first a_t_second a_t_hours a_t_home a_t_feet a_t_far t_corners t_streets t_leaders x2) (cwV 1 S.2.2.2.2 gX0_addStreet_X0_hasCorner rfl rfl rfl n_X0_hasCorner ⟨Nat.le_of_ble_eq_true rfl, Nat.le_of_ble_eq_true rfl⟩) hu4 [0] rfl rfl 0 0 rfl rfl rfl rfl rfl rfl rfl hl.1 rfl (Nat.le_of_ble_eq_true rfl) dX0_addStreet_19 ⟨Nat.zero_le _, Nat.zero_le _⟩ (fun H locs Wd => ?_)
      refine lv_if_eq (tgt := 65) S.1 S.2.1 dX0_addStreet_22 rfl (fun c5 => ?_) (fun c5 => ?_)
      · have hf := g_if hf c5
        exact g_vret S Wd hr hlk dX0_addStreet_65 (t_streets, t_first, t_second, t_hours) hf rfl rfl
      · have hf := g_ifn hf c5
        refine lv_aload_n S.1 S.2.1 dX0_addStreet_25 rfl (lv_at hl 0 rfl) ?_
        refine g_get (a := a_t) S hK Wd iX0_addStreet_X0 0 rfl rfl 3 rfl rfl kX0_addStreet_2 rfl dX0_addStreet_26 ?_
        refine lv_aload_n S.1 S.2.1 dX0_addStreet_29 rfl (lv_at hl 0 rfl) ?_
        refine g_get (a := a_t) S hK Wd iX0_addStreet_X0 0 rfl rfl 1 rfl rfl kX0_addStreet_1 rfl dX0_addStreet_30 ?_
        refine lv_iload_n S.1 S.2.1 dX0_addStreet_33 rfl (lv_at hl 1 rfl) ?_
        obtain ⟨h6, hf⟩ := g_gi hF hf
        refine g_iast (a := a_t_first) (ws' := (wX0_addStreet cI cB cZ cM cJ cK  a_t a_t_first a_t_second a_t_hours a_t_home a_t_feet a_t_far t_corners t_streets t_leaders (upd t_first t_streets.toNatClampNeg x1) t_second t_hours)) S hK Wd 1 0 rfl rfl h6 dX0_addStreet_34 rfl (fun H locs Wd => ?_)
        refine lv_aload_n S.1 S.2.1 dX0_addStreet_35 rfl (lv_at hl 0 rfl) ?_
        refine g_get (a := a_t) S hK Wd iX0_addStreet_X0 0 rfl rfl 4 rfl rfl kX0_addStreet_3 rfl dX0_addStreet_36 ?_
        refine lv_aload_n S.1 S.2.1 dX0_addStreet_39 rfl (lv_at hl 0 rfl) ?_
        refine g_get (a := a_t) S hK Wd iX0_addStreet_X0 0 rfl rfl 1 rfl rfl kX0_addStreet_1 rfl dX0_addStreet_40 ?_
        refine lv_iload_n S.1 S.2.1 dX0_addStreet_43 rfl (lv_at hl 2 rfl) ?_
        obtain ⟨h7, hf⟩ := g_gi hF hf
        refine g_iast (a := a_t_second) (ws' := (wX0_addStreet cI cB cZ cM cJ cK  a_t a_t_first a_t_second a_t_hours a_t_home a_t_feet a_t_far t_corners t_streets t_leaders (upd t_first t_streets.toNatClampNeg x1) (upd t_second t_streets.toNatClampNeg x2) t_hours)) S hK Wd 2 0 rfl rfl h7 dX0_addStreet_44 rfl (fun H locs Wd => ?_)
        refine lv_aload_n S.1 S.2.1 dX0_addStreet_45 rfl (lv_at hl 0 rfl) ?_
        refine g_get (a := a_t) S hK Wd iX0_addStreet_X0 0 rfl rfl 5 rfl rfl kX0_addStreet_4 rfl dX0_addStreet_46 ?_
        refine lv_aload_n S.1 S.2.1 dX0_addStreet_49 rfl (lv_at hl 0 rfl) ?_
        refine g_get (a := a_t) S hK Wd iX0_addStreet_X0 0 rfl rfl 1 rfl rfl kX0_addStreet_1 rfl dX0_addStreet_50 ?_
        refine lv_iload_n S.1 S.2.1 dX0_addStreet_53 rfl (lv_at hl 3 rfl) ?_
        obtain ⟨h8, hf⟩ := g_gi hF hf
        refine g_iast (a := a_t_hours) (ws' := (wX0_addStreet cI cB cZ cM cJ cK  a_t a_t_first a_t_second a_t_hours a_t_home a_t_feet a_t_far t_corners t_streets t_leaders (upd t_first t_streets.toNatClampNeg x1) (upd t_second t_streets.toNatClampNeg x2) (upd t_hours t_streets.toNatClampNeg x3))) S hK Wd 3 0 rfl rfl h8 dX0_addStreet_54 rfl (fun H locs Wd => ?_)
        refine lv_aload_n S.1 S.2.1 dX0_addStreet_55 rfl (lv_at hl 0 rfl) ?_
        refine lv_dup S.1 S.2.1 dX0_addStreet_56 rfl ?_
        refine g_get (a := a_t) S hK Wd iX0_addStreet_X0 0 rfl rfl 1 rfl rfl kX0_addStreet_1 rfl dX0_addStreet_57 ?_
        refine lv_iconst (v := 1) S.1 S.2.1 dX0_addStreet_60 (by decide) ?_
        refine lv_iadd S.1 S.2.1 dX0_addStreet_61 ?_
        refine g_put (a := a_t) (ws' := (wX0_addStreet cI cB cZ cM cJ cK  a_t a_t_first a_t_second a_t_hours a_t_home a_t_feet a_t_far t_corners (t_streets + (1 : Int32)) t_leaders (upd t_first t_streets.toNatClampNeg x1) (upd t_second t_streets.toNatClampNeg x2) (upd t_hours t_streets.toNatClampNeg x3))) S hK Wd iX0_addStreet_X0 tyX0 tyX0_ok nmX0 0 rfl rfl 1 rfl rfl kX0_addStreet_1 rfl rfl rfl dX0_addStreet_62 rfl (fun H locs Wd => ?_)
        exact g_vret S Wd hr hlk dX0_addStreet_65 ((t_streets + (1 : Int32)), (upd t_first t_streets.toNatClampNeg x1), (upd t_second t_streets.toNatClampNeg x2), (upd t_hours t_streets.toNatClampNeg x3)) hf rfl rfl
def wX0_addLeader (cI cB cZ cM cJ cK : ClassId) (a_t a_t_first a_t_second a_t_hours a_t_home a_t_feet a_t_far : Nat) (t_corners t_streets t_leaders : Int32) (t_home t_feet : Nat → Int32) : List va_W := [[(a_t, .inr (0, [.int t_corners, .int t_streets, .int t_leaders, .ref a_t_first, .ref a_t_second, .ref a_t_hours, .ref a_t_home, .ref a_t_feet, .ref a_t_far]))], [(a_t_home, .inl (cI, 6, .inl t_home))], [(a_t_feet, .inl (cI, 6, .inl t_feet))]]
def rmX0_addLeader : Room := { frames := 1, cells := 0, slots := 0, locals := 21 }
theorem kX0_addLeader_1 : Cond.fieldLink RX0 39 "FeastMarch$City" "leaders" "I" ∈ wsX0_addLeader := List.mem_of_getElem? (i := 1) rfl
theorem kX0_addLeader_2 : Cond.fieldLink RX0 21 "FeastMarch$City" "home" "[I" ∈ wsX0_addLeader := List.mem_of_getElem? (i := 2) rfl
theorem kX0_addLeader_3 : Cond.fieldLink RX0 24 "FeastMarch$City" "feet" "[I" ∈ wsX0_addLeader := List.mem_of_getElem? (i := 3) rfl
theorem iX0_addLeader_X0 : ∀ w ∈ wsX00, w ∈ wsX0_addLeader := fun _ h => List.mem_cons_of_mem _ (List.mem_append_right _ h)
theorem n_X0_addLeader : yX0_addLeader.cls = RX0 ∧ yX0_addLeader.cls ≠ "java/lang/invoke/MethodHandle" ∧ yX0_addLeader.cls ≠ "java/lang/invoke/VarHandle" ∧ (parseMethodDescriptor yX0_addLeader.desc).map (fun d => d.parameters.length) = some 2 := by decide +kernel
set_option maxHeartbeats 4000000 in
set_option maxRecDepth 100000 in
theorem c_X0_addLeader (l : Launch) (D : va_G) (N : Nat) (cI cB cZ cM cJ cK : ClassId) (a_t a_t_first a_t_second a_t_hours a_t_home a_t_feet a_t_far : Nat) (t_corners t_streets t_leaders : Int32) (t_home t_feet : Nat → Int32) (x1 x2 : Int32) : gM l yX0_addLeader wsX0_addLeader rmX0_addLeader D (gT cI cB cZ cM cJ cK) (wX0_addLeader cI cB cZ cM cJ cK  a_t a_t_first a_t_second a_t_hours a_t_home a_t_feet a_t_far t_corners t_streets t_leaders t_home t_feet) [.ref a_t, .int x1, .int x2] (fX0_addLeader N t_corners t_leaders t_home t_feet x1 x2) (fun _u : Int32 × (Nat → Int32) × (Nat → Int32) => none) (fun _u : Int32 × (Nat → Int32) × (Nat → Int32) => (wX0_addLeader cI cB cZ cM cJ cK  a_t a_t_first a_t_second a_t_hours a_t_home a_t_feet a_t_far t_corners t_streets _u.1 _u.2.1 _u.2.2)) := by
  refine g_start (cc := cX0_addLeader) (maxL := 3) (ret := none) (by decide) rfl (Nat.le_of_ble_eq_true rfl) ?_
  intro F hf hF p e s m below meth c A ls S hK hA Wd hr hlk hnm hl
  refine lv_aload_n S.1 S.2.1 dX0_addLeader_0 rfl (lv_at hl 0 rfl) ?_
  refine g_get (a := a_t) S hK Wd iX0_addLeader_X0 0 rfl rfl 2 rfl rfl kX0_addLeader_1 rfl dX0_addLeader_1 ?_
  refine lv_bipush (v := 6) S.1 S.2.1 dX0_addLeader_4 (by decide) ?_
  refine lv_icmp_ge (tgt := 47) S.1 S.2.1 dX0_addLeader_6 rfl (fun c1 => ?_) (fun c1 => ?_)
  · have hf := g_if hf c1
    exact g_vret S Wd hr hlk dX0_addLeader_47 (t_leaders, t_home, t_feet) hf rfl rfl
  · have hf := g_ifn hf c1
    refine lv_aload_n S.1 S.2.1 dX0_addLeader_9 rfl (lv_at hl 0 rfl) ?_
    refine lv_iload_n S.1 S.2.1 dX0_addLeader_10 rfl (lv_at hl 1 rfl) ?_
    obtain ⟨u2, hu2, hf⟩ := g_bind hF hf
    refine g_callV (ws' := (wX0_addLeader cI cB cZ cM cJ cK  a_t a_t_first a_t_second a_t_hours a_t_home a_t_feet a_t_far t_corners t_streets t_leaders t_home t_feet)) (As := [.int x1]) (rest := []) (st1 := [.int u2]) S hK hA Wd (c_X0_hasCorner l D N cI cB cZ cM cJ cK a_t a_t_first a_t_second a_t_hours a_t_home a_t_feet a_t_far t_corners t_streets t_leaders x1) (cwV 1 S.2.2.2.2 gX0_addLeader_X0_hasCorner rfl rfl rfl n_X0_hasCorner ⟨Nat.le_of_ble_eq_true rfl, Nat.le_of_ble_eq_true rfl⟩) hu2 [0] rfl rfl 0 0 rfl rfl rfl rfl rfl rfl rfl hl.1 rfl (Nat.le_of_ble_eq_true rfl) dX0_addLeader_11 ⟨Nat.zero_le _, Nat.zero_le _⟩ (fun H locs Wd => ?_)
    refine lv_if_eq (tgt := 47) S.1 S.2.1 dX0_addLeader_14 rfl (fun c3 => ?_) (fun c3 => ?_)
    · have hf := g_if hf c3
      exact g_vret S Wd hr hlk dX0_addLeader_47 (t_leaders, t_home, t_feet) hf rfl rfl
    · have hf := g_ifn hf c3
      refine lv_aload_n S.1 S.2.1 dX0_addLeader_17 rfl (lv_at hl 0 rfl) ?_
      refine g_get (a := a_t) S hK Wd iX0_addLeader_X0 0 rfl rfl 6 rfl rfl kX0_addLeader_2 rfl dX0_addLeader_18 ?_
      refine lv_aload_n S.1 S.2.1 dX0_addLeader_21 rfl (lv_at hl 0 rfl) ?_
      refine g_get (a := a_t) S hK Wd iX0_addLeader_X0 0 rfl rfl 2 rfl rfl kX0_addLeader_1 rfl dX0_addLeader_22 ?_
      refine lv_iload_n S.1 S.2.1 dX0_addLeader_25 rfl (lv_at hl 1 rfl) ?_
      obtain ⟨h4, hf⟩ := g_gi hF hf
      refine g_iast (a := a_t_home) (ws' := (wX0_addLeader cI cB cZ cM cJ cK  a_t a_t_first a_t_second a_t_hours a_t_home a_t_feet a_t_far t_corners t_streets t_leaders (upd t_home t_leaders.toNatClampNeg x1) t_feet)) S hK Wd 1 0 rfl rfl h4 dX0_addLeader_26 rfl (fun H locs Wd => ?_)
      refine lv_aload_n S.1 S.2.1 dX0_addLeader_27 rfl (lv_at hl 0 rfl) ?_
      refine g_get (a := a_t) S hK Wd iX0_addLeader_X0 0 rfl rfl 7 rfl rfl kX0_addLeader_3 rfl dX0_addLeader_28 ?_
      refine lv_aload_n S.1 S.2.1 dX0_addLeader_31 rfl (lv_at hl 0 rfl) ?_
      refine g_get (a := a_t) S hK Wd iX0_addLeader_X0 0 rfl rfl 2 rfl rfl kX0_addLeader_1 rfl dX0_addLeader_32 ?_
      refine lv_iload_n S.1 S.2.1 dX0_addLeader_35 rfl (lv_at hl 2 rfl) ?_
      obtain ⟨h5, hf⟩ := g_gi hF hf
      refine g_iast (a := a_t_feet) (ws' := (wX0_addLeader cI cB cZ cM cJ cK  a_t a_t_first a_t_second a_t_hours a_t_home a_t_feet a_t_far t_corners t_streets t_leaders (upd t_home t_leaders.toNatClampNeg x1) (upd t_feet t_leaders.toNatClampNeg x2))) S hK Wd 2 0 rfl rfl h5 dX0_addLeader_36 rfl (fun H locs Wd => ?_)
      refine lv_aload_n S.1 S.2.1 dX0_addLeader_37 rfl (lv_at hl 0 rfl) ?_
      refine lv_dup S.1 S.2.1 dX0_addLeader_38 rfl ?_
      refine g_get (a := a_t) S hK Wd iX0_addLeader_X0 0 rfl rfl 2 rfl rfl kX0_addLeader_1 rfl dX0_addLeader_39 ?_
      refine lv_iconst (v := 1) S.1 S.2.1 dX0_addLeader_42 (by decide) ?_
      refine lv_iadd S.1 S.2.1 dX0_addLeader_43 ?_
      refine g_put (a := a_t) (ws' := (wX0_addLeader cI cB cZ cM cJ cK  a_t a_t_first a_t_second a_t_hours a_t_home a_t_feet a_t_far t_corners t_streets (t_leaders + (1 : Int32)) (upd t_home t_leaders.toNatClampNeg x1) (upd t_feet t_leaders.toNatClampNeg x2))) S hK Wd iX0_addLeader_X0 tyX0 tyX0_ok nmX0 0 rfl rfl 2 rfl rfl kX0_addLeader_1 rfl rfl rfl dX0_addLeader_44 rfl (fun H locs Wd => ?_)
      exact g_vret S Wd hr hlk dX0_addLeader_47 ((t_leaders + (1 : Int32)), (upd t_home t_leaders.toNatClampNeg x1), (upd t_feet t_leaders.toNatClampNeg x2)) hf rfl rfl
def wX0_hasStreet (cI cB cZ cM cJ cK : ClassId) (a_t a_t_first a_t_second a_t_hours a_t_home a_t_feet a_t_far : Nat) (t_corners t_streets t_leaders : Int32) : List va_W := [[(a_t, .inr (0, [.int t_corners, .int t_streets, .int t_leaders, .ref a_t_first, .ref a_t_second, .ref a_t_hours, .ref a_t_home, .ref a_t_feet, .ref a_t_far]))]]
def rmX0_hasStreet : Room := { frames := 0, cells := 0, slots := 0, locals := 0 }
theorem kX0_hasStreet_1 : Cond.fieldLink RX0 36 "FeastMarch$City" "streets" "I" ∈ wsX0_hasStreet := List.mem_of_getElem? (i := 1) rfl
theorem iX0_hasStreet_X0 : ∀ w ∈ wsX00, w ∈ wsX0_hasStreet := fun _ h => List.mem_cons_of_mem _ (List.mem_append_right _ h)
theorem n_X0_hasStreet : yX0_hasStreet.cls = RX0 ∧ yX0_hasStreet.cls ≠ "java/lang/invoke/MethodHandle" ∧ yX0_hasStreet.cls ≠ "java/lang/invoke/VarHandle" ∧ (parseMethodDescriptor yX0_hasStreet.desc).map (fun d => d.parameters.length) = some 1 := by decide +kernel
set_option maxHeartbeats 4000000 in
set_option maxRecDepth 100000 in
theorem c_X0_hasStreet (l : Launch) (D : va_G) (N : Nat) (cI cB cZ cM cJ cK : ClassId) (a_t a_t_first a_t_second a_t_hours a_t_home a_t_feet a_t_far : Nat) (t_corners t_streets t_leaders x1 : Int32) : gM l yX0_hasStreet wsX0_hasStreet rmX0_hasStreet D (gT cI cB cZ cM cJ cK) (wX0_hasStreet cI cB cZ cM cJ cK  a_t a_t_first a_t_second a_t_hours a_t_home a_t_feet a_t_far t_corners t_streets t_leaders) [.ref a_t, .int x1] (fX0_hasStreet N t_streets x1) (fun _u : Int32 => some (.int _u)) (fun _u : Int32 => (wX0_hasStreet cI cB cZ cM cJ cK  a_t a_t_first a_t_second a_t_hours a_t_home a_t_feet a_t_far t_corners t_streets t_leaders)) := by
  refine g_start (cc := cX0_hasStreet) (maxL := 2) (ret := (some .boolean)) (by decide) rfl (Nat.le_of_ble_eq_true rfl) ?_
  intro F hf hF p e s m below meth c A ls S hK hA Wd hr hlk hnm hl
  refine lv_iload_n S.1 S.2.1 dX0_hasStreet_0 rfl (lv_at hl 1 rfl) ?_
  refine lv_if_lt (tgt := 16) S.1 S.2.1 dX0_hasStreet_1 rfl (fun c1 => ?_) (fun c1 => ?_)
  · have hf := g_if hf c1
    refine lv_iconst (v := 0) S.1 S.2.1 dX0_hasStreet_16 (by decide) ?_
    exact g_zret S Wd hr hlk rfl dX0_hasStreet_17 (0 : Int32) hf rfl rfl
  · have hf := g_ifn hf c1
    refine lv_iload_n S.1 S.2.1 dX0_hasStreet_4 rfl (lv_at hl 1 rfl) ?_
    refine lv_aload_n S.1 S.2.1 dX0_hasStreet_5 rfl (lv_at hl 0 rfl) ?_
    refine g_get (a := a_t) S hK Wd iX0_hasStreet_X0 0 rfl rfl 1 rfl rfl kX0_hasStreet_1 rfl dX0_hasStreet_6 ?_
    refine lv_icmp_ge (tgt := 16) S.1 S.2.1 dX0_hasStreet_9 rfl (fun c2 => ?_) (fun c2 => ?_)
    · have hf := g_if hf c2
      refine lv_iconst (v := 0) S.1 S.2.1 dX0_hasStreet_16 (by decide) ?_
      exact g_zret S Wd hr hlk rfl dX0_hasStreet_17 (0 : Int32) hf rfl rfl
    · have hf := g_ifn hf c2
      refine lv_iconst (v := 1) S.1 S.2.1 dX0_hasStreet_12 (by decide) ?_
      refine lv_goto (tgt := 17) S.1 S.2.1 dX0_hasStreet_13 rfl ?_
      exact g_zret S Wd hr hlk rfl dX0_hasStreet_17 (1 : Int32) hf rfl rfl
def wX0_hasLeader (cI cB cZ cM cJ cK : ClassId) (a_t a_t_first a_t_second a_t_hours a_t_home a_t_feet a_t_far : Nat) (t_corners t_streets t_leaders : Int32) : List va_W := [[(a_t, .inr (0, [.int t_corners, .int t_streets, .int t_leaders, .ref a_t_first, .ref a_t_second, .ref a_t_hours, .ref a_t_home, .ref a_t_feet, .ref a_t_far]))]]
def rmX0_hasLeader : Room := { frames := 0, cells := 0, slots := 0, locals := 0 }
theorem kX0_hasLeader_1 : Cond.fieldLink RX0 39 "FeastMarch$City" "leaders" "I" ∈ wsX0_hasLeader := List.mem_of_getElem? (i := 1) rfl
theorem iX0_hasLeader_X0 : ∀ w ∈ wsX00, w ∈ wsX0_hasLeader := fun _ h => List.mem_cons_of_mem _ (List.mem_append_right _ h)
theorem n_X0_hasLeader : yX0_hasLeader.cls = RX0 ∧ yX0_hasLeader.cls ≠ "java/lang/invoke/MethodHandle" ∧ yX0_hasLeader.cls ≠ "java/lang/invoke/VarHandle" ∧ (parseMethodDescriptor yX0_hasLeader.desc).map (fun d => d.parameters.length) = some 1 := by decide +kernel
set_option maxHeartbeats 4000000 in
set_option maxRecDepth 100000 in
theorem c_X0_hasLeader (l : Launch) (D : va_G) (N : Nat) (cI cB cZ cM cJ cK : ClassId) (a_t a_t_first a_t_second a_t_hours a_t_home a_t_feet a_t_far : Nat) (t_corners t_streets t_leaders x1 : Int32) : gM l yX0_hasLeader wsX0_hasLeader rmX0_hasLeader D (gT cI cB cZ cM cJ cK) (wX0_hasLeader cI cB cZ cM cJ cK  a_t a_t_first a_t_second a_t_hours a_t_home a_t_feet a_t_far t_corners t_streets t_leaders) [.ref a_t, .int x1] (fX0_hasLeader N t_leaders x1) (fun _u : Int32 => some (.int _u)) (fun _u : Int32 => (wX0_hasLeader cI cB cZ cM cJ cK  a_t a_t_first a_t_second a_t_hours a_t_home a_t_feet a_t_far t_corners t_streets t_leaders)) := by
  refine g_start (cc := cX0_hasLeader) (maxL := 2) (ret := (some .boolean)) (by decide) rfl (Nat.le_of_ble_eq_true rfl) ?_
  intro F hf hF p e s m below meth c A ls S hK hA Wd hr hlk hnm hl
  refine lv_iload_n S.1 S.2.1 dX0_hasLeader_0 rfl (lv_at hl 1 rfl) ?_
  refine lv_if_lt (tgt := 16) S.1 S.2.1 dX0_hasLeader_1 rfl (fun c1 => ?_) (fun c1 => ?_)
  · have hf := g_if hf c1
    refine lv_iconst (v := 0) S.1 S.2.1 dX0_hasLeader_16 (by decide) ?_
    exact g_zret S Wd hr hlk rfl dX0_hasLeader_17 (0 : Int32) hf rfl rfl
  · have hf := g_ifn hf c1
    refine lv_iload_n S.1 S.2.1 dX0_hasLeader_4 rfl (lv_at hl 1 rfl) ?_
    refine lv_aload_n S.1 S.2.1 dX0_hasLeader_5 rfl (lv_at hl 0 rfl) ?_
    refine g_get (a := a_t) S hK Wd iX0_hasLeader_X0 0 rfl rfl 2 rfl rfl kX0_hasLeader_1 rfl dX0_hasLeader_6 ?_
    refine lv_icmp_ge (tgt := 16) S.1 S.2.1 dX0_hasLeader_9 rfl (fun c2 => ?_) (fun c2 => ?_)
    · have hf := g_if hf c2
      refine lv_iconst (v := 0) S.1 S.2.1 dX0_hasLeader_16 (by decide) ?_
      exact g_zret S Wd hr hlk rfl dX0_hasLeader_17 (0 : Int32) hf rfl rfl
    · have hf := g_ifn hf c2
      refine lv_iconst (v := 1) S.1 S.2.1 dX0_hasLeader_12 (by decide) ?_
      refine lv_goto (tgt := 17) S.1 S.2.1 dX0_hasLeader_13 rfl ?_
      exact g_zret S Wd hr hlk rfl dX0_hasLeader_17 (1 : Int32) hf rfl rfl
def wX0_streetBits (cI cB cZ cM cJ cK : ClassId) (a_t a_t_first a_t_second a_t_hours a_t_home a_t_feet a_t_far : Nat) (t_corners t_streets t_leaders : Int32) : List va_W := [[(a_t, .inr (0, [.int t_corners, .int t_streets, .int t_leaders, .ref a_t_first, .ref a_t_second, .ref a_t_hours, .ref a_t_home, .ref a_t_feet, .ref a_t_far]))]]
def rmX0_streetBits : Room := { frames := 0, cells := 0, slots := 0, locals := 0 }
theorem kX0_streetBits_1 : Cond.fieldLink RX0 36 "FeastMarch$City" "streets" "I" ∈ wsX0_streetBits := List.mem_of_getElem? (i := 1) rfl
theorem iX0_streetBits_X0 : ∀ w ∈ wsX00, w ∈ wsX0_streetBits := fun _ h => List.mem_cons_of_mem _ (List.mem_append_right _ h)
theorem n_X0_streetBits : yX0_streetBits.cls = RX0 ∧ yX0_streetBits.cls ≠ "java/lang/invoke/MethodHandle" ∧ yX0_streetBits.cls ≠ "java/lang/invoke/VarHandle" ∧ (parseMethodDescriptor yX0_streetBits.desc).map (fun d => d.parameters.length) = some 0 := by decide +kernel
set_option maxHeartbeats 4000000 in
set_option maxRecDepth 100000 in
theorem c_X0_streetBits (l : Launch) (D : va_G) (N : Nat) (cI cB cZ cM cJ cK : ClassId) (a_t a_t_first a_t_second a_t_hours a_t_home a_t_feet a_t_far : Nat) (t_corners t_streets t_leaders : Int32) : gM l yX0_streetBits wsX0_streetBits rmX0_streetBits D (gT cI cB cZ cM cJ cK) (wX0_streetBits cI cB cZ cM cJ cK  a_t a_t_first a_t_second a_t_hours a_t_home a_t_feet a_t_far t_corners t_streets t_leaders) [.ref a_t] (fX0_streetBits N t_streets) (fun _u : Int32 => some (.int _u)) (fun _u : Int32 => (wX0_streetBits cI cB cZ cM cJ cK  a_t a_t_first a_t_second a_t_hours a_t_home a_t_feet a_t_far t_corners t_streets t_leaders)) := by
  refine g_start (cc := cX0_streetBits) (maxL := 1) (ret := (some .int)) (by decide) rfl (Nat.le_of_ble_eq_true rfl) ?_
  intro F hf hF p e s m below meth c A ls S hK hA Wd hr hlk hnm hl
  refine lv_iconst (v := 1) S.1 S.2.1 dX0_streetBits_0 (by decide) ?_
  refine lv_aload_n S.1 S.2.1 dX0_streetBits_1 rfl (lv_at hl 0 rfl) ?_
  refine g_get (a := a_t) S hK Wd iX0_streetBits_X0 0 rfl rfl 1 rfl rfl kX0_streetBits_1 rfl dX0_streetBits_2 ?_
  refine lv_ishl S.1 S.2.1 dX0_streetBits_5 ?_
  refine lv_iconst (v := 1) S.1 S.2.1 dX0_streetBits_6 (by decide) ?_
  refine lv_isub S.1 S.2.1 dX0_streetBits_7 ?_
  exact g_iret S Wd hr hlk dX0_streetBits_8 (((1 : Int32) <<< (t_streets &&& 31)) - (1 : Int32)) hf rfl rfl
def wX0_measure (cI cB cZ cM cJ cK : ClassId) (a_t a_t_first a_t_second a_t_hours a_t_home a_t_feet a_t_far : Nat) (r_t_far : Nat → Nat) (t_corners t_streets t_leaders : Int32) (t_first t_second t_hours : Nat → Int32) (t_far : Nat → Nat → Int32) : List va_W := [[(a_t, .inr (0, [.int t_corners, .int t_streets, .int t_leaders, .ref a_t_first, .ref a_t_second, .ref a_t_hours, .ref a_t_home, .ref a_t_feet, .ref a_t_far]))], [(a_t_first, .inl (cI, 12, .inl t_first))], [(a_t_second, .inl (cI, 12, .inl t_second))], [(a_t_hours, .inl (cI, 12, .inl t_hours))], [(a_t_far, .inl (cK, 8, .inr (.inr (.inr (.inr (famR 8 r_t_far))))))], faC cI r_t_far t_far]
def rmX0_measure : Room := { frames := 1, cells := 0, slots := 0, locals := 24 }
theorem kX0_measure_1 : Cond.fieldLink RX0 32 "FeastMarch$City" "corners" "I" ∈ wsX0_measure := List.mem_of_getElem? (i := 1) rfl
theorem kX0_measure_10 : Cond.code Lib.Math.min.name Lib.Math.min.code 2 (some .int) ∈ wsX0_measure := List.mem_of_getElem? (i := 10) rfl
theorem kX0_measure_2 : Cond.fieldLink RX0 29 "FeastMarch$City" "far" "[[I" ∈ wsX0_measure := List.mem_of_getElem? (i := 2) rfl
theorem kX0_measure_3 : Cond.fieldLink RX0 36 "FeastMarch$City" "streets" "I" ∈ wsX0_measure := List.mem_of_getElem? (i := 3) rfl
theorem kX0_measure_4 : Cond.fieldLink RX0 18 "FeastMarch$City" "hours" "[I" ∈ wsX0_measure := List.mem_of_getElem? (i := 4) rfl
theorem kX0_measure_5 : Cond.fieldLink RX0 9 "FeastMarch$City" "first" "[I" ∈ wsX0_measure := List.mem_of_getElem? (i := 5) rfl
theorem kX0_measure_6 : Cond.fieldLink RX0 15 "FeastMarch$City" "second" "[I" ∈ wsX0_measure := List.mem_of_getElem? (i := 6) rfl
theorem kX0_measure_7 : Cond.methodLink RX0 46 Lib.Math.min.name ∈ wsX0_measure := List.mem_of_getElem? (i := 7) rfl
theorem kX0_measure_8 : Cond.static Lib.Math.min.name ∈ wsX0_measure := List.mem_of_getElem? (i := 8) rfl
theorem kX0_measure_9 : Cond.initialized "java/lang/Math" ∈ wsX0_measure := List.mem_of_getElem? (i := 9) rfl
theorem iX0_measure_X0 : ∀ w ∈ wsX00, w ∈ wsX0_measure := fun _ h => List.mem_cons_of_mem _ (List.mem_append_right _ h)
theorem n_X0_measure : yX0_measure.cls = RX0 ∧ yX0_measure.cls ≠ "java/lang/invoke/MethodHandle" ∧ yX0_measure.cls ≠ "java/lang/invoke/VarHandle" ∧ (parseMethodDescriptor yX0_measure.desc).map (fun d => d.parameters.length) = some 0 := by decide +kernel
set_option maxHeartbeats 4000000 in
set_option maxRecDepth 100000 in
theorem c_X0_measure (l : Launch) (D : va_G) (N : Nat) (cI cB cZ cM cJ cK : ClassId) (a_t a_t_first a_t_second a_t_hours a_t_home a_t_feet a_t_far : Nat) (r_t_far : Nat → Nat) (t_corners t_streets t_leaders : Int32) (t_first t_second t_hours : Nat → Int32) (t_far : Nat → Nat → Int32) : gM l yX0_measure wsX0_measure rmX0_measure D (gT cI cB cZ cM cJ cK) (wX0_measure cI cB cZ cM cJ cK  a_t a_t_first a_t_second a_t_hours a_t_home a_t_feet a_t_far r_t_far t_corners t_streets t_leaders t_first t_second t_hours t_far) [.ref a_t] (fX0_measure N t_corners t_streets t_first t_second t_hours t_far) (fun _u : (Nat → Nat → Int32) => none) (fun _u : (Nat → Nat → Int32) => (wX0_measure cI cB cZ cM cJ cK  a_t a_t_first a_t_second a_t_hours a_t_home a_t_feet a_t_far r_t_far t_corners t_streets t_leaders t_first t_second t_hours _u)) := by
  refine g_start (cc := cX0_measure) (maxL := 4) (ret := none) (by decide) rfl (Nat.le_of_ble_eq_true rfl) ?_
  intro F hf hF p e s m below meth c A ls S hK hA Wd hr hlk hnm hl
  have b12 : ∀ (K2 : (Nat → Nat → Int32) → Int32 → Option ((Nat → Nat → Int32))) (hK2 : ∀ (t_far : Nat → Nat → Int32) (x1 : Int32) (H1 : Heap) (locs1 : List Loc) (ls1 : Array Slot), gw D A s.heap (wX0_measure cI cB cZ cM cJ cK  a_t a_t_first a_t_second a_t_hours a_t_home a_t_feet a_t_far r_t_far t_corners t_streets t_leaders t_first t_second t_hours t_far) H1 locs1 → lv_has ls1 4 [(0, .ref a_t), (1, .int x1)] → F = K2 t_far x1 → W p l e rmX0_measure s m [.ref a_t].toArray below meth c H1 locs1 0 0 (MQ below (gQ F (fun _u : (Nat → Nat → Int32) => none) (fun _u : (Nat → Nat → Int32) => (wX0_measure cI cB cZ cM cJ cK  a_t a_t_first a_t_second a_t_hours a_t_home a_t_feet a_t_far r_t_far t_corners t_streets t_leaders t_first t_second t_hours _u)) D A) [.ref a_t].toArray s 0 0 A) (F0 m 2 ls1 [])) (n : Nat), ∀ (t_far : Nat → Nat → Int32) (x1 x2 : Int32) (H1 : Heap) (locs1 : List Loc) (ls1 : Array Slot), gw D A s.heap (wX0_measure cI cB cZ cM cJ cK  a_t a_t_first a_t_second a_t_hours a_t_home a_t_feet a_t_far r_t_far t_corners t_streets t_leaders t_first t_second t_hours t_far) H1 locs1 → lv_has ls1 4 [(0, .ref a_t), (1, .int x1), (2, .int x2)] → F = fX0_measure_b12 N t_corners t_streets t_first t_second t_hours K2 n t_far x1 x2 → W p l e rmX0_measure s m [.ref a_t].toArray below meth c H1 locs1 0 0 (MQ below (gQ F (fun _u : (Nat → Nat → Int32) => none) (fun _u : (Nat → Nat → Int32) => (wX0_measure cI cB cZ cM cJ cK  a_t a_t_first a_t_second a_t_hours a_t_home a_t_feet a_t_far r_t_far t_corners t_streets t_leaders t_first t_second t_hours _u)) D A) [.ref a_t].toArray s 0 0 A) (F0 m 12 ls1 []) := by
    intro K2 hK2 n
    induction n with
    | zero => intro t_far x1 x2 H locs ls Wd hl hf; exact absurd hf hF
    | succ n ih =>
      intro t_far x1 x2 H locs ls Wd hl hf
      refine lv_iload_n S.1 S.2.1 dX0_measure_12 rfl (lv_at hl 2 rfl) ?_
      refine lv_aload_n S.1 S.2.1 dX0_measure_13 rfl (lv_at hl 0 rfl) ?_
      refine g_get (a := a_t) S hK Wd iX0_measure_X0 0 rfl rfl 0 rfl rfl kX0_measure_1 rfl dX0_measure_14 ?_
      refine lv_icmp_ge (tgt := 45) S.1 S.2.1 dX0_measure_17 rfl (fun c2 => ?_) (fun c2 => ?_)
      · have hf := g_if hf c2
        refine lv_iinc (v := (x1 + (1 : Int32))) (lv' := [(1, .int (x1 + (1 : Int32))), (0, .ref a_t), (2, .int x2)]) S.1 S.2.1 dX0_measure_45 hl (k := 1) rfl rfl (by decide) rfl (fun ls hl => ?_)
        refine lv_goto (tgt := 2) S.1 S.2.1 dX0_measure_48 rfl ?_
        exact hK2 t_far (x1 + (1 : Int32)) _ _ _ Wd (lv_sub hl [1, 0] rfl) hf
      · have hf := g_ifn hf c2
        refine lv_aload_n S.1 S.2.1 dX0_measure_20 rfl (lv_at hl 0 rfl) ?_
        refine g_get (a := a_t) S hK Wd iX0_measure_X0 0 rfl rfl 8 rfl rfl kX0_measure_2 rfl dX0_measure_21 ?_
        refine lv_iload_n S.1 S.2.1 dX0_measure_24 rfl (lv_at hl 1 rfl) ?_
        obtain ⟨h3, hf⟩ := g_gi hF hf
        refine g_aldA (a := a_t_far) (x := r_t_far x1.toNatClampNeg) S hK Wd 4 5 rfl rfl h3 (famR_at (g_lt h3)) dX0_measure_25 ?_
        refine lv_iload_n S.1 S.2.1 dX0_measure_26 rfl (lv_at hl 2 rfl) ?_
        refine lv_iload_n S.1 S.2.1 dX0_measure_27 rfl (lv_at hl 1 rfl) ?_
        refine lv_iload_n S.1 S.2.1 dX0_measure_28 rfl (lv_at hl 2 rfl) ?_
        refine lv_icmp_ne (tgt := 36) S.1 S.2.1 dX0_measure_29 rfl (fun c4 => ?_) (fun c4 => ?_)
        · have hf := g_ifn hf c4
          refine lv_bipush (v := 99) S.1 S.2.1 dX0_measure_36 (by decide) ?_
          obtain ⟨h5, hf⟩ := g_gi hF hf
          refine g_faast (r := r_t_far) (f := t_far) (ws' := (wX0_measure cI cB cZ cM cJ cK  a_t a_t_first a_t_second a_t_hours a_t_home a_t_feet a_t_far r_t_far t_corners t_streets t_leaders t_first t_second t_hours (va_up t_far x1.toNatClampNeg (upd (t_far x1.toNatClampNeg) x2.toNatClampNeg (99 : Int32))))) S hK Wd 5 rfl rfl (g_lt h3) h5 dX0_measure_38 rfl (fun H locs Wd => ?_)
          refine lv_iinc (v := (x2 + (1 : Int32))) (lv' := [(2, .int (x2 + (1 : Int32))), (0, .ref a_t), (1, .int x1)]) S.1 S.2.1 dX0_measure_39 hl (k := 2) rfl rfl (by decide) rfl (fun ls hl => ?_)
          refine lv_goto (tgt := 12) S.1 S.2.1 dX0_measure_42 rfl ?_
          exact ih (va_up t_far x1.toNatClampNeg (upd (t_far x1.toNatClampNeg) x2.toNatClampNeg (99 : Int32))) x1 (x2 + (1 : Int32)) _ _ _ Wd (lv_sub hl [1, 2, 0] rfl) hf
        · have hf := g_if hf c4
          refine lv_iconst (v := 0) S.1 S.2.1 dX0_measure_32 (by decide) ?_
          refine lv_goto (tgt := 38) S.1 S.2.1 dX0_measure_33 rfl ?_
          obtain ⟨h6, hf⟩ := g_gi hF hf
          refine g_faast (r := r_t_far) (f := t_far) (ws' := (wX0_measure cI cB cZ cM cJ cK  a_t a_t_first a_t_second a_t_hours a_t_home a_t_feet a_t_far r_t_far t_corners t_streets t_leaders t_first t_second t_hours (va_up t_far x1.toNatClampNeg (upd (t_far x1.toNatClampNeg) x2.toNatClampNeg (0 : Int32))))) S hK Wd 5 rfl rfl (g_lt h3) h6 dX0_measure_38 rfl (fun H locs Wd => ?_)
          refine lv_iinc (v := (x2 + (1 : Int32))) (lv' := [(2, .int (x2 + (1 : Int32))), (0, .ref a_t), (1, .int x1)]) S.1 S.2.1 dX0_measure_39 hl (k := 2) rfl rfl (by decide) rfl (fun ls hl => ?_)
          refine lv_goto (tgt := 12) S.1 S.2.1 dX0_measure_42 rfl ?_
          exact ih (va_up t_far x1.toNatClampNeg (upd (t_far x1.toNatClampNeg) x2.toNatClampNeg (0 : Int32))) x1 (x2 + (1 : Int32)) _ _ _ Wd (lv_sub hl [1, 2, 0] rfl) hf
  have b127 : ∀ (K53 : (Nat → Nat → Int32) → Int32 → Option ((Nat → Nat → Int32))) (hK53 : ∀ (t_far : Nat → Nat → Int32) (x1 : Int32) (H1 : Heap) (locs1 : List Loc) (ls1 : Array Slot), gw D A s.heap (wX0_measure cI cB cZ cM cJ cK  a_t a_t_first a_t_second a_t_hours a_t_home a_t_feet a_t_far r_t_far t_corners t_streets t_leaders t_first t_second t_hours t_far) H1 locs1 → lv_has ls1 4 [(0, .ref a_t), (1, .int x1)] → F = K53 t_far x1 → W p l e rmX0_measure s m [.ref a_t].toArray below meth c H1 locs1 0 0 (MQ below (gQ F (fun _u : (Nat → Nat → Int32) => none) (fun _u : (Nat → Nat → Int32) => (wX0_measure cI cB cZ cM cJ cK  a_t a_t_first a_t_second a_t_hours a_t_home a_t_feet a_t_far r_t_far t_corners t_streets t_leaders t_first t_second t_hours _u)) D A) [.ref a_t].toArray s 0 0 A) (F0 m 53 ls1 [])) , ∀ (t_far : Nat → Nat → Int32) (x1 : Int32) (H1 : Heap) (locs1 : List Loc) (ls1 : Array Slot), gw D A s.heap (wX0_measure cI cB cZ cM cJ cK  a_t a_t_first a_t_second a_t_hours a_t_home a_t_feet a_t_far r_t_far t_corners t_streets t_leaders t_first t_second t_hours t_far) H1 locs1 → lv_has ls1 4 [(0, .ref a_t), (1, .int x1)] → F = fX0_measure_b127 N t_corners t_streets t_first t_second t_hours K53 t_far x1 → W p l e rmX0_measure s m [.ref a_t].toArray below meth c H1 locs1 0 0 (MQ below (gQ F (fun _u : (Nat → Nat → Int32) => none) (fun _u : (Nat → Nat → Int32) => (wX0_measure cI cB cZ cM cJ cK  a_t a_t_first a_t_second a_t_hours a_t_home a_t_feet a_t_far r_t_far t_corners t_streets t_leaders t_first t_second t_hours _u)) D A) [.ref a_t].toArray s 0 0 A) (F0 m 127 ls1 []) := by
    intro K53 hK53 t_far x1 H locs ls Wd hl hf
    refine lv_iinc (v := (x1 + (1 : Int32))) (lv' := [(1, .int (x1 + (1 : Int32))), (0, .ref a_t)]) S.1 S.2.1 dX0_measure_127 hl (k := 1) rfl rfl (by decide) rfl (fun ls hl => ?_)
    refine lv_goto (tgt := 53) S.1 S.2.1 dX0_measure_130 rfl ?_
    exact hK53 t_far (x1 + (1 : Int32)) _ _ _ Wd (lv_sub hl [1, 0] rfl) hf
  have b108 : ∀ (K53 : (Nat → Nat → Int32) → Int32 → Option ((Nat → Nat → Int32))) (hK53 : ∀ (t_far : Nat → Nat → Int32) (x1 : Int32) (H1 : Heap) (locs1 : List Loc) (ls1 : Array Slot), gw D A s.heap (wX0_measure cI cB cZ cM cJ cK  a_t a_t_first a_t_second a_t_hours a_t_home a_t_feet a_t_far r_t_far t_corners t_streets t_leaders t_first t_second t_hours t_far) H1 locs1 → lv_has ls1 4 [(0, .ref a_t), (1, .int x1)] → F = K53 t_far x1 → W p l e rmX0_measure s m [.ref a_t].toArray below meth c H1 locs1 0 0 (MQ below (gQ F (fun _u : (Nat → Nat → Int32) => none) (fun _u : (Nat → Nat → Int32) => (wX0_measure cI cB cZ cM cJ cK  a_t a_t_first a_t_second a_t_hours a_t_home a_t_feet a_t_far r_t_far t_corners t_streets t_leaders t_first t_second t_hours _u)) D A) [.ref a_t].toArray s 0 0 A) (F0 m 53 ls1 [])) , ∀ (t_far : Nat → Nat → Int32) (x1 x2 : Int32) (H1 : Heap) (locs1 : List Loc) (ls1 : Array Slot), gw D A s.heap (wX0_measure cI cB cZ cM cJ cK  a_t a_t_first a_t_second a_t_hours a_t_home a_t_feet a_t_far r_t_far t_corners t_streets t_leaders t_first t_second t_hours t_far) H1 locs1 → lv_has ls1 4 [(0, .ref a_t), (1, .int x1), (2, .int x2)] → F = fX0_measure_b108 N t_corners t_streets t_first t_second t_hours K53 t_far x1 x2 → W p l e rmX0_measure s m [.ref a_t].toArray below meth c H1 locs1 0 0 (MQ below (gQ F (fun _u : (Nat → Nat → Int32) => none) (fun _u : (Nat → Nat → Int32) => (wX0_measure cI cB cZ cM cJ cK  a_t a_t_first a_t_second a_t_hours a_t_home a_t_feet a_t_far r_t_far t_corners t_streets t_leaders t_first t_second t_hours _u)) D A) [.ref a_t].toArray s 0 0 A) (F0 m 108 ls1 []) := by
    intro K53 hK53 t_far x1 x2 H locs ls Wd hl hf
    refine lv_aload_n S.1 S.2.1 dX0_measure_108 rfl (lv_at hl 0 rfl) ?_
    refine g_get (a := a_t) S hK Wd iX0_measure_X0 0 rfl rfl 8 rfl rfl kX0_measure_2 rfl dX0_measure_109 ?_
    refine lv_aload_n S.1 S.2.1 dX0_measure_112 rfl (lv_at hl 0 rfl) ?_
    refine g_get (a := a_t) S hK Wd iX0_measure_X0 0 rfl rfl 4 rfl rfl kX0_measure_6 rfl dX0_measure_113 ?_
    refine lv_iload_n S.1 S.2.1 dX0_measure_116 rfl (lv_at hl 1 rfl) ?_
    obtain ⟨h17, hf⟩ := g_gi hF hf
    refine g_iald (a := a_t_second) S hK Wd 2 0 rfl rfl h17 dX0_measure_117 ?_
    obtain ⟨h18, hf⟩ := g_gi hF hf
    refine g_aldA (a := a_t_far) (x := r_t_far ((t_second x1.toNatClampNeg).toNatClampNeg)) S hK Wd 4 5 rfl rfl h18 (famR_at (g_lt h18)) dX0_measure_118 ?_
    refine lv_aload_n S.1 S.2.1 dX0_measure_119 rfl (lv_at hl 0 rfl) ?_
    refine g_get (a := a_t) S hK Wd iX0_measure_X0 0 rfl rfl 3 rfl rfl kX0_measure_5 rfl dX0_measure_120 ?_
    refine lv_iload_n S.1 S.2.1 dX0_measure_123 rfl (lv_at hl 1 rfl) ?_
    obtain ⟨h19, hf⟩ := g_gi hF hf
    refine g_iald (a := a_t_first) S hK Wd 1 0 rfl rfl h19 dX0_measure_124 ?_
    refine lv_iload_n S.1 S.2.1 dX0_measure_125 rfl (lv_at hl 2 rfl) ?_
    obtain ⟨h20, hf⟩ := g_gi hF hf
    refine g_faast (r := r_t_far) (f := t_far) (ws' := (wX0_measure cI cB cZ cM cJ cK  a_t a_t_first a_t_second a_t_hours a_t_home a_t_feet a_t_far r_t_far t_corners t_streets t_leaders t_first t_second t_hours (va_up t_far ((t_second x1.toNatClampNeg).toNatClampNeg) (upd (t_far ((t_second x1.toNatClampNeg).toNatClampNeg)) (t_first x1.toNatClampNeg).toNatClampNeg x2)))) S hK Wd 5 rfl rfl (g_lt h18) h20 dX0_measure_126 rfl (fun H locs Wd => ?_)
    exact b127 K53 hK53 (va_up t_far ((t_second x1.toNatClampNeg).toNatClampNeg) (upd (t_far ((t_second x1.toNatClampNeg).toNatClampNeg)) (t_first x1.toNatClampNeg).toNatClampNeg x2)) x1 _ _ _ Wd (lv_sub hl [0, 1] rfl) hf
  have b89 : ∀ (K53 : (Nat → Nat → Int32) → Int32 → Option ((Nat → Nat → Int32))) (hK53 : ∀ (t_far : Nat → Nat → Int32) (x1 : Int32) (H1 : Heap) (locs1 : List Loc) (ls1 : Array Slot), gw D A s.heap (wX0_measure cI cB cZ cM cJ cK  a_t a_t_first a_t_second a_t_hours a_t_home a_t_feet a_t_far r_t_far t_corners t_streets t_leaders t_first t_second t_hours t_far) H1 locs1 → lv_has ls1 4 [(0, .ref a_t), (1, .int x1)] → F = K53 t_far x1 → W p l e rmX0_measure s m [.ref a_t].toArray below meth c H1 locs1 0 0 (MQ below (gQ F (fun _u : (Nat → Nat → Int32) => none) (fun _u : (Nat → Nat → Int32) => (wX0_measure cI cB cZ cM cJ cK  a_t a_t_first a_t_second a_t_hours a_t_home a_t_feet a_t_far r_t_far t_corners t_streets t_leaders t_first t_second t_hours _u)) D A) [.ref a_t].toArray s 0 0 A) (F0 m 53 ls1 [])) , ∀ (t_far : Nat → Nat → Int32) (x1 x2 : Int32) (H1 : Heap) (locs1 : List Loc) (ls1 : Array Slot), gw D A s.heap (wX0_measure cI cB cZ cM cJ cK  a_t a_t_first a_t_second a_t_hours a_t_home a_t_feet a_t_far r_t_far t_corners t_streets t_leaders t_first t_second t_hours t_far) H1 locs1 → lv_has ls1 4 [(0, .ref a_t), (1, .int x1), (2, .int x2)] → F = fX0_measure_b89 N t_corners t_streets t_first t_second t_hours K53 t_far x1 x2 → W p l e rmX0_measure s m [.ref a_t].toArray below meth c H1 locs1 0 0 (MQ below (gQ F (fun _u : (Nat → Nat → Int32) => none) (fun _u : (Nat → Nat → Int32) => (wX0_measure cI cB cZ cM cJ cK  a_t a_t_first a_t_second a_t_hours a_t_home a_t_feet a_t_far r_t_far t_corners t_streets t_leaders t_first t_second t_hours _u)) D A) [.ref a_t].toArray s 0 0 A) (F0 m 89 ls1 []) := by
    intro K53 hK53 t_far x1 x2 H locs ls Wd hl hf
    refine lv_aload_n S.1 S.2.1 dX0_measure_89 rfl (lv_at hl 0 rfl) ?_
    refine g_get (a := a_t) S hK Wd iX0_measure_X0 0 rfl rfl 8 rfl rfl kX0_measure_2 rfl dX0_measure_90 ?_
    refine lv_aload_n S.1 S.2.1 dX0_measure_93 rfl (lv_at hl 0 rfl) ?_
    refine g_get (a := a_t) S hK Wd iX0_measure_X0 0 rfl rfl 3 rfl rfl kX0_measure_5 rfl dX0_measure_94 ?_
    refine lv_iload_n S.1 S.2.1 dX0_measure_97 rfl (lv_at hl 1 rfl) ?_
    obtain ⟨h13, hf⟩ := g_gi hF hf
    refine g_iald (a := a_t_first) S hK Wd 1 0 rfl rfl h13 dX0_measure_98 ?_
    obtain ⟨h14, hf⟩ := g_gi hF hf
    refine g_aldA (a := a_t_far) (x := r_t_far ((t_first x1.toNatClampNeg).toNatClampNeg)) S hK Wd 4 5 rfl rfl h14 (famR_at (g_lt h14)) dX0_measure_99 ?_
    refine lv_aload_n S.1 S.2.1 dX0_measure_100 rfl (lv_at hl 0 rfl) ?_
    refine g_get (a := a_t) S hK Wd iX0_measure_X0 0 rfl rfl 4 rfl rfl kX0_measure_6 rfl dX0_measure_101 ?_
    refine lv_iload_n S.1 S.2.1 dX0_measure_104 rfl (lv_at hl 1 rfl) ?_
    obtain ⟨h15, hf⟩ := g_gi hF hf
    refine g_iald (a := a_t_second) S hK Wd 2 0 rfl rfl h15 dX0_measure_105 ?_
    refine lv_iload_n S.1 S.2.1 dX0_measure_106 rfl (lv_at hl 2 rfl) ?_
    obtain ⟨h16, hf⟩ := g_gi hF hf
    refine g_faast (r := r_t_far) (f := t_far) (ws' := (wX0_measure cI cB cZ cM cJ cK  a_t a_t_first a_t_second a_t_hours a_t_home a_t_feet a_t_far r_t_far t_corners t_streets t_leaders t_first t_second t_hours (va_up t_far ((t_first x1.toNatClampNeg).toNatClampNeg) (upd (t_far ((t_first x1.toNatClampNeg).toNatClampNeg)) (t_second x1.toNatClampNeg).toNatClampNeg x2)))) S hK Wd 5 rfl rfl (g_lt h14) h16 dX0_measure_107 rfl (fun H locs Wd => ?_)
    exact b108 K53 hK53 (va_up t_far ((t_first x1.toNatClampNeg).toNatClampNeg) (upd (t_far ((t_first x1.toNatClampNeg).toNatClampNeg)) (t_second x1.toNatClampNeg).toNatClampNeg x2)) x1 x2 _ _ _ Wd hl hf
  have b155 : ∀ (K135 : (Nat → Nat → Int32) → Int32 → Option ((Nat → Nat → Int32))) (hK135 : ∀ (t_far : Nat → Nat → Int32) (x1 : Int32) (H1 : Heap) (locs1 : List Loc) (ls1 : Array Slot), gw D A s.heap (wX0_measure cI cB cZ cM cJ cK  a_t a_t_first a_t_second a_t_hours a_t_home a_t_feet a_t_far r_t_far t_corners t_streets t_leaders t_first t_second t_hours t_far) H1 locs1 → lv_has ls1 4 [(0, .ref a_t), (1, .int x1)] → F = K135 t_far x1 → W p l e rmX0_measure s m [.ref a_t].toArray below meth c H1 locs1 0 0 (MQ below (gQ F (fun _u : (Nat → Nat → Int32) => none) (fun _u : (Nat → Nat → Int32) => (wX0_measure cI cB cZ cM cJ cK  a_t a_t_first a_t_second a_t_hours a_t_home a_t_feet a_t_far r_t_far t_corners t_streets t_leaders t_first t_second t_hours _u)) D A) [.ref a_t].toArray s 0 0 A) (F0 m 135 ls1 [])) (K145 : (Nat → Nat → Int32) → Int32 → Int32 → Option ((Nat → Nat → Int32))) (hK145 : ∀ (t_far : Nat → Nat → Int32) (x1 x2 : Int32) (H1 : Heap) (locs1 : List Loc) (ls1 : Array Slot), gw D A s.heap (wX0_measure cI cB cZ cM cJ cK  a_t a_t_first a_t_second a_t_hours a_t_home a_t_feet a_t_far r_t_far t_corners t_streets t_leaders t_first t_second t_hours t_far) H1 locs1 → lv_has ls1 4 [(0, .ref a_t), (1, .int x1), (2, .int x2)] → F = K145 t_far x1 x2 → W p l e rmX0_measure s m [.ref a_t].toArray below meth c H1 locs1 0 0 (MQ below (gQ F (fun _u : (Nat → Nat → Int32) => none) (fun _u : (Nat → Nat → Int32) => (wX0_measure cI cB cZ cM cJ cK  a_t a_t_first a_t_second a_t_hours a_t_home a_t_feet a_t_far r_t_far t_corners t_streets t_leaders t_first t_second t_hours _u)) D A) [.ref a_t].toArray s 0 0 A) (F0 m 145 ls1 [])) (n : Nat), ∀ (t_far : Nat → Nat → Int32) (x1 x2 x3 : Int32) (H1 : Heap) (locs1 : List Loc) (ls1 : Array Slot), gw D A s.heap (wX0_measure cI cB cZ cM cJ cK  a_t a_t_first a_t_second a_t_hours a_t_home a_t_feet a_t_far r_t_far t_corners t_streets t_leaders t_first t_second t_hours t_far) H1 locs1 → lv_has ls1 4 [(0, .ref a_t), (1, .int x1), (2, .int x2), (3, .int x3)] → F = fX0_measure_b155 N t_corners t_streets t_first t_second t_hours K135 K145 n t_far x1 x2 x3 → W p l e rmX0_measure s m [.ref a_t].toArray below meth c H1 locs1 0 0 (MQ below (gQ F (fun _u : (Nat → Nat → Int32) => none) (fun _u : (Nat → Nat → Int32) => (wX0_measure cI cB cZ cM cJ cK  a_t a_t_first a_t_second a_t_hours a_t_home a_t_feet a_t_far r_t_far t_corners t_streets t_leaders t_first t_second t_hours _u)) D A) [.ref a_t].toArray s 0 0 A) (F0 m 155 ls1 []) := by
    intro K135 hK135 K145 hK145 n
    induction n with
    | zero => intro t_far x1 x2 x3 H locs ls Wd hl hf; exact absurd hf hF
    | succ n ih =>
      intro t_far x1 x2 x3 H locs ls Wd hl hf
      refine lv_iload_n S.1 S.2.1 dX0_measure_155 rfl (lv_at hl 3 rfl) ?_
      refine lv_aload_n S.1 S.2.1 dX0_measure_156 rfl (lv_at hl 0 rfl) ?_
      refine g_get (a := a_t) S hK Wd iX0_measure_X0 0 rfl rfl 0 rfl rfl kX0_measure_1 rfl dX0_measure_157 ?_
      refine lv_icmp_ge (tgt := 205) S.1 S.2.1 dX0_measure_160 rfl (fun c23 => ?_) (fun c23 => ?_)
      · have hf := g_if hf c23
        refine lv_iinc (v := (x2 + (1 : Int32))) (lv' := [(2, .int (x2 + (1 : Int32))), (0, .ref a_t), (1, .int x1), (3, .int x3)]) S.1 S.2.1 dX0_measure_205 hl (k := 2) rfl rfl (by decide) rfl (fun ls hl => ?_)
        refine lv_goto (tgt := 145) S.1 S.2.1 dX0_measure_208 rfl ?_
        exact hK145 t_far x1 (x2 + (1 : Int32)) _ _ _ Wd (lv_sub hl [1, 2, 0] rfl) hf
      · have hf := g_ifn hf c23
        refine lv_aload_n S.1 S.2.1 dX0_measure_163 rfl (lv_at hl 0 rfl) ?_
        refine g_get (a := a_t) S hK Wd iX0_measure_X0 0 rfl rfl 8 rfl rfl kX0_measure_2 rfl dX0_measure_164 ?_
        refine lv_iload_n S.1 S.2.1 dX0_measure_167 rfl (lv_at hl 2 rfl) ?_
        obtain ⟨h24, hf⟩ := g_gi hF hf
        refine g_aldA (a := a_t_far) (x := r_t_far x2.toNatClampNeg) S hK Wd 4 5 rfl rfl h24 (famR_at (g_lt h24)) dX0_measure_168 ?_
        refine lv_iload_n S.1 S.2.1 dX0_measure_169 rfl (lv_at hl 3 rfl) ?_
        refine lv_aload_n S.1 S.2.1 dX0_measure_170 rfl (lv_at hl 0 rfl) ?_
        refine g_get (a := a_t) S hK Wd iX0_measure_X0 0 rfl rfl 8 rfl rfl kX0_measure_2 rfl dX0_measure_171 ?_
        refine lv_iload_n S.1 S.2.1 dX0_measure_174 rfl (lv_at hl 2 rfl) ?_
        obtain ⟨h25, hf⟩ := g_gi hF hf
        refine g_aldA (a := a_t_far) (x := r_t_far x2.toNatClampNeg) S hK Wd 4 5 rfl rfl h25 (famR_at (g_lt h25)) dX0_measure_175 ?_
        refine lv_iload_n S.1 S.2.1 dX0_measure_176 rfl (lv_at hl 3 rfl) ?_
        obtain ⟨h26, hf⟩ := g_gi hF hf
        refine g_faald (r := r_t_far) (f := t_far) S hK Wd 5 rfl rfl (g_lt h25) h26 dX0_measure_177 ?_
        refine lv_aload_n S.1 S.2.1 dX0_measure_178 rfl (lv_at hl 0 rfl) ?_
        refine g_get (a := a_t) S hK Wd iX0_measure_X0 0 rfl rfl 8 rfl rfl kX0_measure_2 rfl dX0_measure_179 ?_
        refine lv_iload_n S.1 S.2.1 dX0_measure_182 rfl (lv_at hl 2 rfl) ?_
        obtain ⟨h27, hf⟩ := g_gi hF hf
        refine g_aldA (a := a_t_far) (x := r_t_far x2.toNatClampNeg) S hK Wd 4 5 rfl rfl h27 (famR_at (g_lt h27)) dX0_measure_183 ?_
        refine lv_iload_n S.1 S.2.1 dX0_measure_184 rfl (lv_at hl 1 rfl) ?_
        obtain ⟨h28, hf⟩ := g_gi hF hf
        refine g_faald (r := r_t_far) (f := t_far) S hK Wd 5 rfl rfl (g_lt h27) h28 dX0_measure_185 ?_
        refine lv_aload_n S.1 S.2.1 dX0_measure_186 rfl (lv_at hl 0 rfl) ?_
        refine g_get (a := a_t) S hK Wd iX0_measure_X0 0 rfl rfl 8 rfl rfl kX0_measure_2 rfl dX0_measure_187 ?_
        refine lv_iload_n S.1 S.2.1 dX0_measure_190 rfl (lv_at hl 1 rfl) ?_
        obtain ⟨h29, hf⟩ := g_gi hF hf
        refine g_aldA (a := a_t_far) (x := r_t_far x1.toNatClampNeg) S hK Wd 4 5 rfl rfl h29 (famR_at (g_lt h29)) dX0_measure_191 ?_
        refine lv_iload_n S.1 S.2.1 dX0_measure_192 rfl (lv_at hl 3 rfl) ?_
        obtain ⟨h30, hf⟩ := g_gi hF hf
        refine g_faald (r := r_t_far) (f := t_far) S hK Wd 5 rfl rfl (g_lt h29) h30 dX0_measure_193 ?_
        refine lv_iadd S.1 S.2.1 dX0_measure_194 ?_
        refine va_mmin S.1 S.2.1 (S.2.2.1.trans hl.1.symm) S.2.2.2.1 (S.2.2.2.2 _ kX0_measure_7) (S.2.2.2.2 _ kX0_measure_8) (S.2.2.2.2 _ kX0_measure_9) (S.2.2.2.2 _ kX0_measure_10) (Nat.le_of_ble_eq_true rfl) (Nat.le_of_ble_eq_true rfl) (Nat.zero_le _) (Nat.zero_le _) dX0_measure_195 ?_
        obtain ⟨h31, hf⟩ := g_gi hF hf
        refine g_faast (r := r_t_far) (f := t_far) (ws' := (wX0_measure cI cB cZ cM cJ cK  a_t a_t_first a_t_second a_t_hours a_t_home a_t_feet a_t_far r_t_far t_corners t_streets t_leaders t_first t_second t_hours (va_up t_far x2.toNatClampNeg (upd (t_far x2.toNatClampNeg) x3.toNatClampNeg (if ((t_far x2.toNatClampNeg x1.toNatClampNeg) + (t_far x1.toNatClampNeg x3.toNatClampNeg)) < (t_far x2.toNatClampNeg x3.toNatClampNeg) then ((t_far x2.toNatClampNeg x1.toNatClampNeg) + (t_far x1.toNatClampNeg x3.toNatClampNeg)) else (t_far x2.toNatClampNeg x3.toNatClampNeg)))))) S hK Wd 5 rfl rfl (g_lt h24) h31 dX0_measure_198 rfl (fun H locs Wd => ?_)
        refine lv_iinc (v := (x3 + (1 : Int32))) (lv' := [(3, .int (x3 + (1 : Int32))), (0, .ref a_t), (1, .int x1), (2, .int x2)]) S.1 S.2.1 dX0_measure_199 hl (k := 3) rfl rfl (by decide) rfl (fun ls hl => ?_)
        refine lv_goto (tgt := 155) S.1 S.2.1 dX0_measure_202 rfl ?_
        exact ih (va_up t_far x2.toNatClampNeg (upd (t_far x2.toNatClampNeg) x3.toNatClampNeg (if ((t_far x2.toNatClampNeg x1.toNatClampNeg) + (t_far x1.toNatClampNeg x3.toNatClampNeg)) < (t_far x2.toNatClampNeg x3.toNatClampNeg) then ((t_far x2.toNatClampNeg x1.toNatClampNeg) + (t_far x1.toNatClampNeg x3.toNatClampNeg)) else (t_far x2.toNatClampNeg x3.toNatClampNeg)))) x1 x2 (x3 + (1 : Int32)) _ _ _ Wd (lv_sub hl [1, 2, 3, 0] rfl) hf
  have b145 : ∀ (K135 : (Nat → Nat → Int32) → Int32 → Option ((Nat → Nat → Int32))) (hK135 : ∀ (t_far : Nat → Nat → Int32) (x1 : Int32) (H1 : Heap) (locs1 : List Loc) (ls1 : Array Slot), gw D A s.heap (wX0_measure cI cB cZ cM cJ cK  a_t a_t_first a_t_second a_t_hours a_t_home a_t_feet a_t_far r_t_far t_corners t_streets t_leaders t_first t_second t_hours t_far) H1 locs1 → lv_has ls1 4 [(0, .ref a_t), (1, .int x1)] → F = K135 t_far x1 → W p l e rmX0_measure s m [.ref a_t].toArray below meth c H1 locs1 0 0 (MQ below (gQ F (fun _u : (Nat → Nat → Int32) => none) (fun _u : (Nat → Nat → Int32) => (wX0_measure cI cB cZ cM cJ cK  a_t a_t_first a_t_second a_t_hours a_t_home a_t_feet a_t_far r_t_far t_corners t_streets t_leaders t_first t_second t_hours _u)) D A) [.ref a_t].toArray s 0 0 A) (F0 m 135 ls1 [])) (n : Nat), ∀ (t_far : Nat → Nat → Int32) (x1 x2 : Int32) (H1 : Heap) (locs1 : List Loc) (ls1 : Array Slot), gw D A s.heap (wX0_measure cI cB cZ cM cJ cK  a_t a_t_first a_t_second a_t_hours a_t_home a_t_feet a_t_far r_t_far t_corners t_streets t_leaders t_first t_second t_hours t_far) H1 locs1 → lv_has ls1 4 [(0, .ref a_t), (1, .int x1), (2, .int x2)] → F = fX0_measure_b145 N t_corners t_streets t_first t_second t_hours K135 n t_far x1 x2 → W p l e rmX0_measure s m [.ref a_t].toArray below meth c H1 locs1 0 0 (MQ below (gQ F (fun _u : (Nat → Nat → Int32) => none) (fun _u : (Nat → Nat → Int32) => (wX0_measure cI cB cZ cM cJ cK  a_t a_t_first a_t_second a_t_hours a_t_home a_t_feet a_t_far r_t_far t_corners t_streets t_leaders t_first t_second t_hours _u)) D A) [.ref a_t].toArray s 0 0 A) (F0 m 145 ls1 []) := by
    intro K135 hK135 n
    induction n with
    | zero => intro t_far x1 x2 H locs ls Wd hl hf; exact absurd hf hF
    | succ n ih =>
      intro t_far x1 x2 H locs ls Wd hl hf
      refine lv_iload_n S.1 S.2.1 dX0_measure_145 rfl (lv_at hl 2 rfl) ?_
      refine lv_aload_n S.1 S.2.1 dX0_measure_146 rfl (lv_at hl 0 rfl) ?_
      refine g_get (a := a_t) S hK Wd iX0_measure_X0 0 rfl rfl 0 rfl rfl kX0_measure_1 rfl dX0_measure_147 ?_
      refine lv_icmp_ge (tgt := 211) S.1 S.2.1 dX0_measure_150 rfl (fun c22 => ?_) (fun c22 => ?_)
      · have hf := g_if hf c22
        refine lv_iinc (v := (x1 + (1 : Int32))) (lv' := [(1, .int (x1 + (1 : Int32))), (0, .ref a_t), (2, .int x2)]) S.1 S.2.1 dX0_measure_211 hl (k := 1) rfl rfl (by decide) rfl (fun ls hl => ?_)
        refine lv_goto (tgt := 135) S.1 S.2.1 dX0_measure_214 rfl ?_
        exact hK135 t_far (x1 + (1 : Int32)) _ _ _ Wd (lv_sub hl [1, 0] rfl) hf
      · have hf := g_ifn hf c22
        refine lv_iconst (v := 0) S.1 S.2.1 dX0_measure_153 (by decide) ?_
        refine lv_istore_n (lv' := [(3, .int (0 : Int32)), (0, .ref a_t), (1, .int x1), (2, .int x2)]) S.1 S.2.1 dX0_measure_154 rfl hl (by decide) rfl (fun ls hl => ?_)
        exact b155 K135 hK135 (fun t_far x1 x2 => fX0_measure_b145 N t_corners t_streets t_first t_second t_hours K135 n t_far x1 x2) ih N t_far x1 x2 (0 : Int32) _ _ _ Wd (lv_sub hl [1, 2, 3, 0] rfl) hf
  have b135 : ∀ (n : Nat), ∀ (t_far : Nat → Nat → Int32) (x1 : Int32) (H1 : Heap) (locs1 : List Loc) (ls1 : Array Slot), gw D A s.heap (wX0_measure cI cB cZ cM cJ cK  a_t a_t_first a_t_second a_t_hours a_t_home a_t_feet a_t_far r_t_far t_corners t_streets t_leaders t_first t_second t_hours t_far) H1 locs1 → lv_has ls1 4 [(0, .ref a_t), (1, .int x1)] → F = fX0_measure_b135 N t_corners t_streets t_first t_second t_hours  n t_far x1 → W p l e rmX0_measure s m [.ref a_t].toArray below meth c H1 locs1 0 0 (MQ below (gQ F (fun _u : (Nat → Nat → Int32) => none) (fun _u : (Nat → Nat → Int32) => (wX0_measure cI cB cZ cM cJ cK  a_t a_t_first a_t_second a_t_hours a_t_home a_t_feet a_t_far r_t_far t_corners t_streets t_leaders t_first t_second t_hours _u)) D A) [.ref a_t].toArray s 0 0 A) (F0 m 135 ls1 []) := by
    intro  n
    induction n with
    | zero => intro t_far x1 H locs ls Wd hl hf; exact absurd hf hF
    | succ n ih =>
      intro t_far x1 H locs ls Wd hl hf
      refine lv_iload_n S.1 S.2.1 dX0_measure_135 rfl (lv_at hl 1 rfl) ?_
      refine lv_aload_n S.1 S.2.1 dX0_measure_136 rfl (lv_at hl 0 rfl) ?_
      refine g_get (a := a_t) S hK Wd iX0_measure_X0 0 rfl rfl 0 rfl rfl kX0_measure_1 rfl dX0_measure_137 ?_
      refine lv_icmp_ge (tgt := 217) S.1 S.2.1 dX0_measure_140 rfl (fun c21 => ?_) (fun c21 => ?_)
      · have hf := g_if hf c21
        exact g_vret S Wd hr hlk dX0_measure_217 t_far hf rfl rfl
      · have hf := g_ifn hf c21
        refine lv_iconst (v := 0) S.1 S.2.1 dX0_measure_143 (by decide) ?_
        refine lv_istore_n (lv' := [(2, .int (0 : Int32)), (0, .ref a_t), (1, .int x1)]) S.1 S.2.1 dX0_measure_144 rfl hl (by decide) rfl (fun ls hl => ?_)
        exact b145 (fun t_far x1 => fX0_measure_b135 N t_corners t_streets t_first t_second t_hours n t_far x1) ih N t_far x1 (0 : Int32) _ _ _ Wd (lv_sub hl [1, 2, 0] rfl) hf
  have b53 : ∀ (n : Nat), ∀ (t_far : Nat → Nat → Int32) (x1 : Int32) (H1 : Heap) (locs1 : List Loc) (ls1 : Array Slot), gw D A s.heap (wX0_measure cI cB cZ cM cJ cK  a_t a_t_first a_t_second a_t_hours a_t_home a_t_feet a_t_far r_t_far t_corners t_streets t_leaders t_first t_second t_hours t_far) H1 locs1 → lv_has ls1 4 [(0, .ref a_t), (1, .int x1)] → F = fX0_measure_b53 N t_corners t_streets t_first t_second t_hours  n t_far x1 → W p l e rmX0_measure s m [.ref a_t].toArray below meth c H1 locs1 0 0 (MQ below (gQ F (fun _u : (Nat → Nat → Int32) => none) (fun _u : (Nat → Nat → Int32) => (wX0_measure cI cB cZ cM cJ cK  a_t a_t_first a_t_second a_t_hours a_t_home a_t_feet a_t_far r_t_far t_corners t_streets t_leaders t_first t_second t_hours _u)) D A) [.ref a_t].toArray s 0 0 A) (F0 m 53 ls1 []) := by
    intro  n
    induction n with
    | zero => intro t_far x1 H locs ls Wd hl hf; exact absurd hf hF
    | succ n ih =>
      intro t_far x1 H locs ls Wd hl hf
      refine lv_iload_n S.1 S.2.1 dX0_measure_53 rfl (lv_at hl 1 rfl) ?_
      refine lv_aload_n S.1 S.2.1 dX0_measure_54 rfl (lv_at hl 0 rfl) ?_
      refine g_get (a := a_t) S hK Wd iX0_measure_X0 0 rfl rfl 1 rfl rfl kX0_measure_3 rfl dX0_measure_55 ?_
      refine lv_icmp_ge (tgt := 133) S.1 S.2.1 dX0_measure_58 rfl (fun c7 => ?_) (fun c7 => ?_)
      · have hf := g_if hf c7
        refine lv_iconst (v := 0) S.1 S.2.1 dX0_measure_133 (by decide) ?_
        refine lv_istore_n (lv' := [(1, .int (0 : Int32)), (0, .ref a_t)]) S.1 S.2.1 dX0_measure_134 rfl hl (by decide) rfl (fun ls hl => ?_)
        exact b135  N t_far (0 : Int32) _ _ _ Wd (lv_sub hl [1, 0] rfl) hf
      · have hf := g_ifn hf c7
        refine lv_aload_n S.1 S.2.1 dX0_measure_61 rfl (lv_at hl 0 rfl) ?_
        refine g_get (a := a_t) S hK Wd iX0_measure_X0 0 rfl rfl 5 rfl rfl kX0_measure_4 rfl dX0_measure_62 ?_
        refine lv_iload_n S.1 S.2.1 dX0_measure_65 rfl (lv_at hl 1 rfl) ?_
        obtain ⟨h8, hf⟩ := g_gi hF hf
        refine g_iald (a := a_t_hours) S hK Wd 3 0 rfl rfl h8 dX0_measure_66 ?_
        refine lv_aload_n S.1 S.2.1 dX0_measure_67 rfl (lv_at hl 0 rfl) ?_
        refine g_get (a := a_t) S hK Wd iX0_measure_X0 0 rfl rfl 8 rfl rfl kX0_measure_2 rfl dX0_measure_68 ?_
        refine lv_aload_n S.1 S.2.1 dX0_measure_71 rfl (lv_at hl 0 rfl) ?_
        refine g_get (a := a_t) S hK Wd iX0_measure_X0 0 rfl rfl 3 rfl rfl kX0_measure_5 rfl dX0_measure_72 ?_
        refine lv_iload_n S.1 S.2.1 dX0_measure_75 rfl (lv_at hl 1 rfl) ?_
        obtain ⟨h9, hf⟩ := g_gi hF hf
        refine g_iald (a := a_t_first) S hK Wd 1 0 rfl rfl h9 dX0_measure_76 ?_
        obtain ⟨h10, hf⟩ := g_gi hF hf
        refine g_aldA (a := a_t_far) (x := r_t_far ((t_first x1.toNatClampNeg).toNatClampNeg)) S hK Wd 4 5 rfl rfl h10 (famR_at (g_lt h10)) dX0_measure_77 ?_
        refine lv_aload_n S.1 S.2.1 dX0_measure_78 rfl (lv_at hl 0 rfl) ?_
        refine g_get (a := a_t) S hK Wd iX0_measure_X0 0 rfl rfl 4 rfl rfl kX0_measure_6 rfl dX0_measure_79 ?_
        refine lv_iload_n S.1 S.2.1 dX0_measure_82 rfl (lv_at hl 1 rfl) ?_
        obtain ⟨h11, hf⟩ := g_gi hF hf
        refine g_iald (a := a_t_second) S hK Wd 2 0 rfl rfl h11 dX0_measure_83 ?_
        obtain ⟨h12, hf⟩ := g_gi hF hf
        refine g_faald (r := r_t_far) (f := t_far) S hK Wd 5 rfl rfl (g_lt h10) h12 dX0_measure_84 ?_
        refine va_mmin S.1 S.2.1 (S.2.2.1.trans hl.1.symm) S.2.2.2.1 (S.2.2.2.2 _ kX0_measure_7) (S.2.2.2.2 _ kX0_measure_8) (S.2.2.2.2 _ kX0_measure_9) (S.2.2.2.2 _ kX0_measure_10) (Nat.le_of_ble_eq_true rfl) (Nat.le_of_ble_eq_true rfl) (Nat.zero_le _) (Nat.zero_le _) dX0_measure_85 ?_
        refine lv_istore_n (lv' := [(2, .int (if (t_far ((t_first x1.toNatClampNeg).toNatClampNeg) (t_second x1.toNatClampNeg).toNatClampNeg) < (t_hours x1.toNatClampNeg) then (t_far ((t_first x1.toNatClampNeg).toNatClampNeg) (t_second x1.toNatClampNeg).toNatClampNeg) else (t_hours x1.toNatClampNeg))), (0, .ref a_t), (1, .int x1)]) S.1 S.2.1 dX0_measure_88 rfl hl (by decide) rfl (fun ls hl => ?_)
        exact b89 (fun t_far x1 => fX0_measure_b53 N t_corners t_streets t_first t_second t_hours n t_far x1) ih t_far x1 (if (t_far ((t_first x1.toNatClampNeg).toNatClampNeg) (t_second x1.toNatClampNeg).toNatClampNeg) < (t_hours x1.toNatClampNeg) then (t_far ((t_first x1.toNatClampNeg).toNatClampNeg) (t_second x1.toNatClampNeg).toNatClampNeg) else (t_hours x1.toNatClampNeg)) _ _ _ Wd (lv_sub hl [1, 2, 0] rfl) hf
  have b2 : ∀ (n : Nat), ∀ (t_far : Nat → Nat → Int32) (x1 : Int32) (H1 : Heap) (locs1 : List Loc) (ls1 : Array Slot), gw D A s.heap (wX0_measure cI cB cZ cM cJ cK  a_t a_t_first a_t_second a_t_hours a_t_home a_t_feet a_t_far r_t_far t_corners t_streets t_leaders t_first t_second t_hours t_far) H1 locs1 → lv_has ls1 4 [(0, .ref a_t), (1, .int x1)] → F = fX0_measure_b2 N t_corners t_streets t_first t_second t_hours  n t_far x1 → W p l e rmX0_measure s m [.ref a_t].toArray below meth c H1 locs1 0 0 (MQ below (gQ F (fun _u : (Nat → Nat → Int32) => none) (fun _u : (Nat → Nat → Int32) => (wX0_measure cI cB cZ cM cJ cK  a_t a_t_first a_t_second a_t_hours a_t_home a_t_feet a_t_far r_t_far t_corners t_streets t_leaders t_first t_second t_hours _u)) D A) [.ref a_t].toArray s 0 0 A) (F0 m 2 ls1 []) := by
    intro  n
    induction n with
    | zero => intro t_far x1 H locs ls Wd hl hf; exact absurd hf hF
    | succ n ih =>
      intro t_far x1 H locs ls Wd hl hf
      refine lv_iload_n S.1 S.2.1 dX0_measure_2 rfl (lv_at hl 1 rfl) ?_
      refine lv_aload_n S.1 S.2.1 dX0_measure_3 rfl (lv_at hl 0 rfl) ?_
      refine g_get (a := a_t) S hK Wd iX0_measure_X0 0 rfl rfl 0 rfl rfl kX0_measure_1 rfl dX0_measure_4 ?_
      refine lv_icmp_ge (tgt := 51) S.1 S.2.1 dX0_measure_7 rfl (fun c1 => ?_) (fun c1 => ?_)
      · have hf := g_if hf c1
        refine lv_iconst (v := 0) S.1 S.2.1 dX0_measure_51 (by decide) ?_
        refine lv_istore_n (lv' := [(1, .int (0 : Int32)), (0, .ref a_t)]) S.1 S.2.1 dX0_measure_52 rfl hl (by decide) rfl (fun ls hl => ?_)
        exact b53  N t_far (0 : Int32) _ _ _ Wd (lv_sub hl [1, 0] rfl) hf
      · have hf := g_ifn hf c1
        refine lv_iconst (v := 0) S.1 S.2.1 dX0_measure_10 (by decide) ?_
        refine lv_istore_n (lv' := [(2, .int (0 : Int32)), (0, .ref a_t), (1, .int x1)]) S.1 S.2.1 dX0_measure_11 rfl hl (by decide) rfl (fun ls hl => ?_)
        exact b12 (fun t_far x1 => fX0_measure_b2 N t_corners t_streets t_first t_second t_hours n t_far x1) ih N t_far x1 (0 : Int32) _ _ _ Wd (lv_sub hl [1, 2, 0] rfl) hf
  refine lv_iconst (v := 0) S.1 S.2.1 dX0_measure_0 (by decide) ?_
  refine lv_istore_n (lv' := [(1, .int (0 : Int32)), (0, .ref a_t)]) S.1 S.2.1 dX0_measure_1 rfl hl (by decide) rfl (fun ls hl => ?_)
  exact b2  N t_far (0 : Int32) _ _ _ Wd (lv_sub hl [1, 0] rfl) hf
def wX0_wayFrom (cI cB cZ cM cJ cK : ClassId) (a_t a_t_first a_t_second a_t_hours a_t_home a_t_feet a_t_far : Nat) (t_corners t_streets t_leaders : Int32) (t_first t_second : Nat → Int32) : List va_W := [[(a_t, .inr (0, [.int t_corners, .int t_streets, .int t_leaders, .ref a_t_first, .ref a_t_second, .ref a_t_hours, .ref a_t_home, .ref a_t_feet, .ref a_t_far]))], [(a_t_first, .inl (cI, 12, .inl t_first))], [(a_t_second, .inl (cI, 12, .inl t_second))]]
def rmX0_wayFrom : Room := { frames := 0, cells := 0, slots := 0, locals := 0 }
theorem kX0_wayFrom_1 : Cond.fieldLink RX0 9 "FeastMarch$City" "first" "[I" ∈ wsX0_wayFrom := List.mem_of_getElem? (i := 1) rfl
theorem kX0_wayFrom_2 : Cond.fieldLink RX0 15 "FeastMarch$City" "second" "[I" ∈ wsX0_wayFrom := List.mem_of_getElem? (i := 2) rfl
theorem iX0_wayFrom_X0 : ∀ w ∈ wsX00, w ∈ wsX0_wayFrom := fun _ h => List.mem_cons_of_mem _ (List.mem_append_right _ h)
theorem n_X0_wayFrom : yX0_wayFrom.cls = RX0 ∧ yX0_wayFrom.cls ≠ "java/lang/invoke/MethodHandle" ∧ yX0_wayFrom.cls ≠ "java/lang/invoke/VarHandle" ∧ (parseMethodDescriptor yX0_wayFrom.desc).map (fun d => d.parameters.length) = some 2 := by decide +kernel
set_option maxHeartbeats 4000000 in
set_option maxRecDepth 100000 in
theorem c_X0_wayFrom (l : Launch) (D : va_G) (N : Nat) (cI cB cZ cM cJ cK : ClassId) (a_t a_t_first a_t_second a_t_hours a_t_home a_t_feet a_t_far : Nat) (t_corners t_streets t_leaders : Int32) (t_first t_second : Nat → Int32) (x1 x2 : Int32) : gM l yX0_wayFrom wsX0_wayFrom rmX0_wayFrom D (gT cI cB cZ cM cJ cK) (wX0_wayFrom cI cB cZ cM cJ cK  a_t a_t_first a_t_second a_t_hours a_t_home a_t_feet a_t_far t_corners t_streets t_leaders t_first t_second) [.ref a_t, .int x1, .int x2] (fX0_wayFrom N t_first t_second x1 x2) (fun _u : Int32 => some (.int _u)) (fun _u : Int32 => (wX0_wayFrom cI cB cZ cM cJ cK  a_t a_t_first a_t_second a_t_hours a_t_home a_t_feet a_t_far t_corners t_streets t_leaders t_first t_second)) := by
  refine g_start (cc := cX0_wayFrom) (maxL := 3) (ret := (some .int)) (by decide) rfl (Nat.le_of_ble_eq_true rfl) ?_
  intro F hf hF p e s m below meth c A ls S hK hA Wd hr hlk hnm hl
  refine lv_aload_n S.1 S.2.1 dX0_wayFrom_0 rfl (lv_at hl 0 rfl) ?_
  refine g_get (a := a_t) S hK Wd iX0_wayFrom_X0 0 rfl rfl 3 rfl rfl kX0_wayFrom_1 rfl dX0_wayFrom_1 ?_
  refine lv_iload_n S.1 S.2.1 dX0_wayFrom_4 rfl (lv_at hl 1 rfl) ?_
  obtain ⟨h1, hf⟩ := g_gi hF hf
  refine g_iald (a := a_t_first) S hK Wd 1 0 rfl rfl h1 dX0_wayFrom_5 ?_
  refine lv_iload_n S.1 S.2.1 dX0_wayFrom_6 rfl (lv_at hl 2 rfl) ?_
  refine lv_icmp_ne (tgt := 12) S.1 S.2.1 dX0_wayFrom_7 rfl (fun c2 => ?_) (fun c2 => ?_)
  · have hf := g_ifn hf c2
    refine lv_aload_n S.1 S.2.1 dX0_wayFrom_12 rfl (lv_at hl 0 rfl) ?_
    refine g_get (a := a_t) S hK Wd iX0_wayFrom_X0 0 rfl rfl 4 rfl rfl kX0_wayFrom_2 rfl dX0_wayFrom_13 ?_
    refine lv_iload_n S.1 S.2.1 dX0_wayFrom_16 rfl (lv_at hl 1 rfl) ?_
    obtain ⟨h3, hf⟩ := g_gi hF hf
    refine g_iald (a := a_t_second) S hK Wd 2 0 rfl rfl h3 dX0_wayFrom_17 ?_
    refine lv_iload_n S.1 S.2.1 dX0_wayFrom_18 rfl (lv_at hl 2 rfl) ?_
    refine lv_icmp_ne (tgt := 29) S.1 S.2.1 dX0_wayFrom_19 rfl (fun c4 => ?_) (fun c4 => ?_)
    · have hf := g_ifn hf c4
      refine lv_bipush (v := (-9)) S.1 S.2.1 dX0_wayFrom_29 (by decide) ?_
      exact g_iret S Wd hr hlk dX0_wayFrom_31 (-9 : Int32) hf rfl rfl
    · have hf := g_if hf c4
      refine lv_iload_n S.1 S.2.1 dX0_wayFrom_22 rfl (lv_at hl 1 rfl) ?_
      refine lv_bipush (v := 12) S.1 S.2.1 dX0_wayFrom_23 (by decide) ?_
      refine lv_iadd S.1 S.2.1 dX0_wayFrom_25 ?_
      refine lv_goto (tgt := 31) S.1 S.2.1 dX0_wayFrom_26 rfl ?_
      exact g_iret S Wd hr hlk dX0_wayFrom_31 (x1 + (12 : Int32)) hf rfl rfl
  · have hf := g_if hf c2
    refine lv_iload_n S.1 S.2.1 dX0_wayFrom_10 rfl (lv_at hl 1 rfl) ?_
    exact g_iret S Wd hr hlk dX0_wayFrom_11 x1 hf rfl rfl
def wX0_otherEnd (cI cB cZ cM cJ cK : ClassId) (a_t a_t_first a_t_second a_t_hours a_t_home a_t_feet a_t_far : Nat) (t_corners t_streets t_leaders : Int32) (t_first t_second : Nat → Int32) : List va_W := [[(a_t, .inr (0, [.int t_corners, .int t_streets, .int t_leaders, .ref a_t_first, .ref a_t_second, .ref a_t_hours, .ref a_t_home, .ref a_t_feet, .ref a_t_far]))], [(a_t_first, .inl (cI, 12, .inl t_first))], [(a_t_second, .inl (cI, 12, .inl t_second))]]
def rmX0_otherEnd : Room := { frames := 0, cells := 0, slots := 0, locals := 0 }
theorem kX0_otherEnd_1 : Cond.fieldLink RX0 15 "FeastMarch$City" "second" "[I" ∈ wsX0_otherEnd := List.mem_of_getElem? (i := 1) rfl
theorem kX0_otherEnd_2 : Cond.fieldLink RX0 9 "FeastMarch$City" "first" "[I" ∈ wsX0_otherEnd := List.mem_of_getElem? (i := 2) rfl
theorem iX0_otherEnd_X0 : ∀ w ∈ wsX00, w ∈ wsX0_otherEnd := fun _ h => List.mem_cons_of_mem _ (List.mem_append_right _ h)
theorem n_X0_otherEnd : yX0_otherEnd.cls = RX0 ∧ yX0_otherEnd.cls ≠ "java/lang/invoke/MethodHandle" ∧ yX0_otherEnd.cls ≠ "java/lang/invoke/VarHandle" ∧ (parseMethodDescriptor yX0_otherEnd.desc).map (fun d => d.parameters.length) = some 1 := by decide +kernel
set_option maxHeartbeats 4000000 in
set_option maxRecDepth 100000 in
theorem c_X0_otherEnd (l : Launch) (D : va_G) (N : Nat) (cI cB cZ cM cJ cK : ClassId) (a_t a_t_first a_t_second a_t_hours a_t_home a_t_feet a_t_far : Nat) (t_corners t_streets t_leaders : Int32) (t_first t_second : Nat → Int32) (x1 : Int32) : gM l yX0_otherEnd wsX0_otherEnd rmX0_otherEnd D (gT cI cB cZ cM cJ cK) (wX0_otherEnd cI cB cZ cM cJ cK  a_t a_t_first a_t_second a_t_hours a_t_home a_t_feet a_t_far t_corners t_streets t_leaders t_first t_second) [.ref a_t, .int x1] (fX0_otherEnd N t_first t_second x1) (fun _u : Int32 => some (.int _u)) (fun _u : Int32 => (wX0_otherEnd cI cB cZ cM cJ cK  a_t a_t_first a_t_second a_t_hours a_t_home a_t_feet a_t_far t_corners t_streets t_leaders t_first t_second)) := by
  refine g_start (cc := cX0_otherEnd) (maxL := 2) (ret := (some .int)) (by decide) rfl (Nat.le_of_ble_eq_true rfl) ?_
  intro F hf hF p e s m below meth c A ls S hK hA Wd hr hlk hnm hl
  refine lv_iload_n S.1 S.2.1 dX0_otherEnd_0 rfl (lv_at hl 1 rfl) ?_
  refine lv_bipush (v := 12) S.1 S.2.1 dX0_otherEnd_1 (by decide) ?_
  refine lv_icmp_ge (tgt := 15) S.1 S.2.1 dX0_otherEnd_3 rfl (fun c1 => ?_) (fun c1 => ?_)
  · have hf := g_if hf c1
    refine lv_aload_n S.1 S.2.1 dX0_otherEnd_15 rfl (lv_at hl 0 rfl) ?_
    refine g_get (a := a_t) S hK Wd iX0_otherEnd_X0 0 rfl rfl 3 rfl rfl kX0_otherEnd_2 rfl dX0_otherEnd_16 ?_
    refine lv_iload_n S.1 S.2.1 dX0_otherEnd_19 rfl (lv_at hl 1 rfl) ?_
    refine lv_bipush (v := 12) S.1 S.2.1 dX0_otherEnd_20 (by decide) ?_
    refine lv_isub S.1 S.2.1 dX0_otherEnd_22 ?_
    obtain ⟨h2, hf⟩ := g_gi hF hf
    refine g_iald (a := a_t_first) S hK Wd 1 0 rfl rfl h2 dX0_otherEnd_23 ?_
    exact g_iret S Wd hr hlk dX0_otherEnd_24 (t_first (x1 - (12 : Int32)).toNatClampNeg) hf rfl rfl
  · have hf := g_ifn hf c1
    refine lv_aload_n S.1 S.2.1 dX0_otherEnd_6 rfl (lv_at hl 0 rfl) ?_
    refine g_get (a := a_t) S hK Wd iX0_otherEnd_X0 0 rfl rfl 4 rfl rfl kX0_otherEnd_1 rfl dX0_otherEnd_7 ?_
    refine lv_iload_n S.1 S.2.1 dX0_otherEnd_10 rfl (lv_at hl 1 rfl) ?_
    obtain ⟨h3, hf⟩ := g_gi hF hf
    refine g_iald (a := a_t_second) S hK Wd 2 0 rfl rfl h3 dX0_otherEnd_11 ?_
    refine lv_goto (tgt := 24) S.1 S.2.1 dX0_otherEnd_12 rfl ?_
    exact g_iret S Wd hr hlk dX0_otherEnd_24 (t_second x1.toNatClampNeg) hf rfl rfl
def wX0_wantedWay (cI cB cZ cM cJ cK : ClassId) (a_t a_t_first a_t_second a_t_hours a_t_home a_t_feet a_t_far : Nat) (r_t_far : Nat → Nat) (t_corners t_streets t_leaders : Int32) (t_first t_second t_hours : Nat → Int32) (t_far : Nat → Nat → Int32) : List va_W := [[(a_t, .inr (0, [.int t_corners, .int t_streets, .int t_leaders, .ref a_t_first, .ref a_t_second, .ref a_t_hours, .ref a_t_home, .ref a_t_feet, .ref a_t_far]))], [(a_t_first, .inl (cI, 12, .inl t_first))], [(a_t_second, .inl (cI, 12, .inl t_second))], [(a_t_hours, .inl (cI, 12, .inl t_hours))], [(a_t_far, .inl (cK, 8, .inr (.inr (.inr (.inr (famR 8 r_t_far))))))], faC cI r_t_far t_far]
def rmX0_wantedWay : Room := { frames := 1, cells := 0, slots := 0, locals := 22 }
theorem kX0_wantedWay_1 : Cond.fieldLink RX0 36 "FeastMarch$City" "streets" "I" ∈ wsX0_wantedWay := List.mem_of_getElem? (i := 1) rfl
theorem kX0_wantedWay_2 : Cond.fieldLink RX0 29 "FeastMarch$City" "far" "[[I" ∈ wsX0_wantedWay := List.mem_of_getElem? (i := 2) rfl
theorem kX0_wantedWay_3 : Cond.fieldLink RX0 18 "FeastMarch$City" "hours" "[I" ∈ wsX0_wantedWay := List.mem_of_getElem? (i := 3) rfl
theorem iX0_wantedWay_X0 : ∀ w ∈ wsX00, w ∈ wsX0_wantedWay := fun _ h => List.mem_cons_of_mem _ (List.mem_append_right _ h)
theorem n_X0_wantedWay : yX0_wantedWay.cls = RX0 ∧ yX0_wantedWay.cls ≠ "java/lang/invoke/MethodHandle" ∧ yX0_wantedWay.cls ≠ "java/lang/invoke/VarHandle" ∧ (parseMethodDescriptor yX0_wantedWay.desc).map (fun d => d.parameters.length) = some 3 := by decide +kernel
set_option maxHeartbeats 4000000 in
set_option maxRecDepth 100000 in
theorem c_X0_wantedWay (l : Launch) (D : va_G) (N : Nat) (cI cB cZ cM cJ cK : ClassId) (a_t a_t_first a_t_second a_t_hours a_t_home a_t_feet a_t_far : Nat) (r_t_far : Nat → Nat) (t_corners t_streets t_leaders : Int32) (t_first t_second t_hours : Nat → Int32) (t_far : Nat → Nat → Int32) (x1 x2 x3 : Int32) : gM l yX0_wantedWay wsX0_wantedWay rmX0_wantedWay D (gT cI cB cZ cM cJ cK) (wX0_wantedWay cI cB cZ cM cJ cK  a_t a_t_first a_t_second a_t_hours a_t_home a_t_feet a_t_far r_t_far t_corners t_streets t_leaders t_first t_second t_hours t_far) [.ref a_t, .int x1, .int x2, .int x3] (fX0_wantedWay N t_streets t_first t_second t_hours t_far x1 x2 x3) (fun _u : Int32 => some (.int _u)) (fun _u : Int32 => (wX0_wantedWay cI cB cZ cM cJ cK  a_t a_t_first a_t_second a_t_hours a_t_home a_t_feet a_t_far r_t_far t_corners t_streets t_leaders t_first t_second t_hours t_far)) := by
  refine g_start (cc := cX0_wantedWay) (maxL := 10) (ret := (some .int)) (by decide) rfl (Nat.le_of_ble_eq_true rfl) ?_
  intro F hf hF p e s m below meth c A ls S hK hA Wd hr hlk hnm hl
  have b116 : ∀ (K13 : Int32 → Int32 → Int32 → Int32 → Option (Int32)) (hK13 : ∀ (x4 x5 x6 x7 : Int32) (H1 : Heap) (locs1 : List Loc) (ls1 : Array Slot), gw D A s.heap (wX0_wantedWay cI cB cZ cM cJ cK  a_t a_t_first a_t_second a_t_hours a_t_home a_t_feet a_t_far r_t_far t_corners t_streets t_leaders t_first t_second t_hours t_far) H1 locs1 → lv_has ls1 10 [(0, .ref a_t), (1, .int x1), (2, .int x2), (3, .int x3), (4, .int x4), (5, .int x5), (6, .int x6), (7, .int x7)] → F = K13 x4 x5 x6 x7 → W p l e rmX0_wantedWay s m [.ref a_t, .int x1, .int x2, .int x3].toArray below meth c H1 locs1 0 0 (MQ below (gQ F (fun _u : Int32 => some (.int _u)) (fun _u : Int32 => (wX0_wantedWay cI cB cZ cM cJ cK  a_t a_t_first a_t_second a_t_hours a_t_home a_t_feet a_t_far r_t_far t_corners t_streets t_leaders t_first t_second t_hours t_far)) D A) [.ref a_t, .int x1, .int x2, .int x3].toArray s 0 0 A) (F0 m 13 ls1 [])) , ∀ (x4 x5 x6 x7 : Int32) (H1 : Heap) (locs1 : List Loc) (ls1 : Array Slot), gw D A s.heap (wX0_wantedWay cI cB cZ cM cJ cK  a_t a_t_first a_t_second a_t_hours a_t_home a_t_feet a_t_far r_t_far t_corners t_streets t_leaders t_first t_second t_hours t_far) H1 locs1 → lv_has ls1 10 [(0, .ref a_t), (1, .int x1), (2, .int x2), (3, .int x3), (4, .int x4), (5, .int x5), (6, .int x6), (7, .int x7)] → F = fX0_wantedWay_b116 N t_streets t_first t_second t_hours t_far x1 x2 x3 K13 x4 x5 x6 x7 → W p l e rmX0_wantedWay s m [.ref a_t, .int x1, .int x2, .int x3].toArray below meth c H1 locs1 0 0 (MQ below (gQ F (fun _u : Int32 => some (.int _u)) (fun _u : Int32 => (wX0_wantedWay cI cB cZ cM cJ cK  a_t a_t_first a_t_second a_t_hours a_t_home a_t_feet a_t_far r_t_far t_corners t_streets t_leaders t_first t_second t_hours t_far)) D A) [.ref a_t, .int x1, .int x2, .int x3].toArray s 0 0 A) (F0 m 116 ls1 []) := by
    intro K13 hK13 x4 x5 x6 x7 H locs ls Wd hl hf
    refine lv_iinc (v := (x7 + (1 : Int32))) (lv' := [(7, .int (x7 + (1 : Int32))), (0, .ref a_t), (1, .int x1), (2, .int x2), (3, .int x3), (4, .int x4), (5, .int x5), (6, .int x6)]) S.1 S.2.1 dX0_wantedWay_116 hl (k := 7) rfl rfl (by decide) rfl (fun ls hl => ?_)
    refine lv_goto (tgt := 13) S.1 S.2.1 dX0_wantedWay_119 rfl ?_
    exact hK13 x4 x5 x6 (x7 + (1 : Int32)) _ _ _ Wd (lv_sub hl [1, 2, 3, 4, 5, 6, 7, 0] rfl) hf
  have b99 : ∀ (K13 : Int32 → Int32 → Int32 → Int32 → Option (Int32)) (hK13 : ∀ (x4 x5 x6 x7 : Int32) (H1 : Heap) (locs1 : List Loc) (ls1 : Array Slot), gw D A s.heap (wX0_wantedWay cI cB cZ cM cJ cK  a_t a_t_first a_t_second a_t_hours a_t_home a_t_feet a_t_far r_t_far t_corners t_streets t_leaders t_first t_second t_hours t_far) H1 locs1 → lv_has ls1 10 [(0, .ref a_t), (1, .int x1), (2, .int x2), (3, .int x3), (4, .int x4), (5, .int x5), (6, .int x6), (7, .int x7)] → F = K13 x4 x5 x6 x7 → W p l e rmX0_wantedWay s m [.ref a_t, .int x1, .int x2, .int x3].toArray below meth c H1 locs1 0 0 (MQ below (gQ F (fun _u : Int32 => some (.int _u)) (fun _u : Int32 => (wX0_wantedWay cI cB cZ cM cJ cK  a_t a_t_first a_t_second a_t_hours a_t_home a_t_feet a_t_far r_t_far t_corners t_streets t_leaders t_first t_second t_hours t_far)) D A) [.ref a_t, .int x1, .int x2, .int x3].toArray s 0 0 A) (F0 m 13 ls1 [])) , ∀ (x7 x8 x9 : Int32) (H1 : Heap) (locs1 : List Loc) (ls1 : Array Slot), gw D A s.heap (wX0_wantedWay cI cB cZ cM cJ cK  a_t a_t_first a_t_second a_t_hours a_t_home a_t_feet a_t_far r_t_far t_corners t_streets t_leaders t_first t_second t_hours t_far) H1 locs1 → lv_has ls1 10 [(0, .ref a_t), (1, .int x1), (2, .int x2), (3, .int x3), (7, .int x7), (8, .int x8), (9, .int x9)] → F = fX0_wantedWay_b99 N t_streets t_first t_second t_hours t_far x1 x2 x3 K13 x7 x8 x9 → W p l e rmX0_wantedWay s m [.ref a_t, .int x1, .int x2, .int x3].toArray below meth c H1 locs1 0 0 (MQ below (gQ F (fun _u : Int32 => some (.int _u)) (fun _u : Int32 => (wX0_wantedWay cI cB cZ cM cJ cK  a_t a_t_first a_t_second a_t_hours a_t_home a_t_feet a_t_far r_t_far t_corners t_streets t_leaders t_first t_second t_hours t_far)) D A) [.ref a_t, .int x1, .int x2, .int x3].toArray s 0 0 A) (F0 m 99 ls1 []) := by
    intro K13 hK13 x7 x8 x9 H locs ls Wd hl hf
    refine lv_iload S.1 S.2.1 dX0_wantedWay_99 (lv_at hl 5 rfl) ?_
    refine lv_istore (lv' := [(4, .int x8), (0, .ref a_t), (1, .int x1), (2, .int x2), (3, .int x3), (7, .int x7), (8, .int x8), (9, .int x9)]) S.1 S.2.1 dX0_wantedWay_101 hl (by decide) rfl (fun ls hl => ?_)
    refine lv_iload S.1 S.2.1 dX0_wantedWay_103 (lv_at hl 7 rfl) ?_
    refine lv_istore (lv' := [(5, .int x9), (4, .int x8), (0, .ref a_t), (1, .int x1), (2, .int x2), (3, .int x3), (7, .int x7), (8, .int x8), (9, .int x9)]) S.1 S.2.1 dX0_wantedWay_105 hl (by decide) rfl (fun ls hl => ?_)
    refine lv_aload_n S.1 S.2.1 dX0_wantedWay_107 rfl (lv_at hl 2 rfl) ?_
    refine g_get (a := a_t) S hK Wd iX0_wantedWay_X0 0 rfl rfl 5 rfl rfl kX0_wantedWay_3 rfl dX0_wantedWay_108 ?_
    refine lv_iload S.1 S.2.1 dX0_wantedWay_111 (lv_at hl 6 rfl) ?_
    obtain ⟨h13, hf⟩ := g_gi hF hf
    refine g_iald (a := a_t_hours) S hK Wd 3 0 rfl rfl h13 dX0_wantedWay_113 ?_
    refine lv_istore (lv' := [(6, .int (t_hours x7.toNatClampNeg)), (5, .int x9), (4, .int x8), (0, .ref a_t), (1, .int x1), (2, .int x2), (3, .int x3), (7, .int x7), (8, .int x8), (9, .int x9)]) S.1 S.2.1 dX0_wantedWay_114 hl (by decide) rfl (fun ls hl => ?_)
    exact b116 K13 hK13 x8 x9 (t_hours x7.toNatClampNeg) x7 _ _ _ Wd (lv_sub hl [3, 4, 5, 6, 2, 1, 0, 7] rfl) hf
  have b13 : ∀ (n : Nat), ∀ (x4 x5 x6 x7 : Int32) (H1 : Heap) (locs1 : List Loc) (ls1 : Array Slot), gw D A s.heap (wX0_wantedWay cI cB cZ cM cJ cK  a_t a_t_first a_t_second a_t_hours a_t_home a_t_feet a_t_far r_t_far t_corners t_streets t_leaders t_first t_second t_hours t_far) H1 locs1 → lv_has ls1 10 [(0, .ref a_t), (1, .int x1), (2, .int x2), (3, .int x3), (4, .int x4), (5, .int x5), (6, .int x6), (7, .int x7)] → F = fX0_wantedWay_b13 N t_streets t_first t_second t_hours t_far x1 x2 x3  n x4 x5 x6 x7 → W p l e rmX0_wantedWay s m [.ref a_t, .int x1, .int x2, .int x3].toArray below meth c H1 locs1 0 0 (MQ below (gQ F (fun _u : Int32 => some (.int _u)) (fun _u : Int32 => (wX0_wantedWay cI cB cZ cM cJ cK  a_t a_t_first a_t_second a_t_hours a_t_home a_t_feet a_t_far r_t_far t_corners t_streets t_leaders t_first t_second t_hours t_far)) D A) [.ref a_t, .int x1, .int x2, .int x3].toArray s 0 0 A) (F0 m 13 ls1 []) := by
    intro  n
    induction n with
    | zero => intro x4 x5 x6 x7 H locs ls Wd hl hf; exact absurd hf hF
    | succ n ih =>
      intro x4 x5 x6 x7 H locs ls Wd hl hf
      refine lv_iload S.1 S.2.1 dX0_wantedWay_13 (lv_at hl 7 rfl) ?_
      refine lv_aload_n S.1 S.2.1 dX0_wantedWay_15 rfl (lv_at hl 0 rfl) ?_
      refine g_get (a := a_t) S hK Wd iX0_wantedWay_X0 0 rfl rfl 1 rfl rfl kX0_wantedWay_1 rfl dX0_wantedWay_16 ?_
      refine lv_icmp_ge (tgt := 122) S.1 S.2.1 dX0_wantedWay_19 rfl (fun c1 => ?_) (fun c1 => ?_)
      · have hf := g_if hf c1
        refine lv_iload S.1 S.2.1 dX0_wantedWay_122 (lv_at hl 4 rfl) ?_
        exact g_iret S Wd hr hlk dX0_wantedWay_124 x4 hf rfl rfl
      · have hf := g_ifn hf c1
        refine lv_aload_n S.1 S.2.1 dX0_wantedWay_22 rfl (lv_at hl 0 rfl) ?_
        refine lv_iload S.1 S.2.1 dX0_wantedWay_23 (lv_at hl 7 rfl) ?_
        refine lv_iload_n S.1 S.2.1 dX0_wantedWay_25 rfl (lv_at hl 1 rfl) ?_
        obtain ⟨u2, hu2, hf⟩ := g_bind hF hf
        refine g_callV (ws' := (wX0_wantedWay cI cB cZ cM cJ cK  a_t a_t_first a_t_second a_t_hours a_t_home a_t_feet a_t_far r_t_far t_corners t_streets t_leaders t_first t_second t_hours t_far)) (As := [.int x7, .int x1]) (rest := []) (st1 := [.int u2]) S hK hA Wd (c_X0_wayFrom l D N cI cB cZ cM cJ cK a_t a_t_first a_t_second a_t_hours a_t_home a_t_feet a_t_far t_corners t_streets t_leaders t_first t_second x7 x1) (cwV 2 S.2.2.2.2 gX0_wantedWay_X0_wayFrom rfl rfl rfl n_X0_wayFrom ⟨Nat.le_of_ble_eq_true rfl, Nat.le_of_ble_eq_true rfl⟩) hu2 [0, 1, 2] rfl rfl 0 0 rfl rfl rfl rfl rfl rfl rfl hl.1 rfl (Nat.le_of_ble_eq_true rfl) dX0_wantedWay_26 ⟨Nat.zero_le _, Nat.zero_le _⟩ (fun H locs Wd => ?_)
        refine lv_istore (lv' := [(8, .int u2), (0, .ref a_t), (1, .int x1), (2, .int x2), (3, .int x3), (4, .int x4), (5, .int x5), (6, .int x6), (7, .int x7)]) S.1 S.2.1 dX0_wantedWay_29 hl (by decide) rfl (fun ls hl => ?_)
        refine lv_iload S.1 S.2.1 dX0_wantedWay_31 (lv_at hl 0 rfl) ?_
        refine lv_bipush (v := (-9)) S.1 S.2.1 dX0_wantedWay_33 (by decide) ?_
        refine lv_icmp_eq (tgt := 116) S.1 S.2.1 dX0_wantedWay_35 rfl (fun c3 => ?_) (fun c3 => ?_)
        · have hf := g_if hf c3
          exact b116 (fun x4 x5 x6 x7 => fX0_wantedWay_b13 N t_streets t_first t_second t_hours t_far x1 x2 x3 n x4 x5 x6 x7) ih x4 x5 x6 x7 _ _ _ Wd (lv_sub hl [1, 2, 3, 4, 5, 6, 7, 8] rfl) hf
        · have hf := g_ifn hf c3
          refine lv_iload_n S.1 S.2.1 dX0_wantedWay_38 rfl (lv_at hl 4 rfl) ?_
          refine lv_iload S.1 S.2.1 dX0_wantedWay_39 (lv_at hl 0 rfl) ?_
          refine lv_ishr S.1 S.2.1 dX0_wantedWay_41 ?_
          refine lv_iconst (v := 1) S.1 S.2.1 dX0_wantedWay_42 (by decide) ?_
          refine lv_iand S.1 S.2.1 dX0_wantedWay_43 ?_
          refine lv_iconst (v := 1) S.1 S.2.1 dX0_wantedWay_44 (by decide) ?_
          refine lv_icmp_ne (tgt := 51) S.1 S.2.1 dX0_wantedWay_45 rfl (fun c4 => ?_) (fun c4 => ?_)
          · have hf := g_ifn hf c4
            refine lv_aload_n S.1 S.2.1 dX0_wantedWay_51 rfl (lv_at hl 1 rfl) ?_
            refine g_get (a := a_t) S hK Wd iX0_wantedWay_X0 0 rfl rfl 8 rfl rfl kX0_wantedWay_2 rfl dX0_wantedWay_52 ?_
            refine lv_aload_n S.1 S.2.1 dX0_wantedWay_55 rfl (lv_at hl 1 rfl) ?_
            refine lv_iload S.1 S.2.1 dX0_wantedWay_56 (lv_at hl 0 rfl) ?_
            obtain ⟨u5, hu5, hf⟩ := g_bind hF hf
            refine g_callV (ws' := (wX0_wantedWay cI cB cZ cM cJ cK  a_t a_t_first a_t_second a_t_hours a_t_home a_t_feet a_t_far r_t_far t_corners t_streets t_leaders t_first t_second t_hours t_far)) (As := [.int u2]) (rest := [.ref a_t_far]) (st1 := [.int u5, .ref a_t_far]) S hK hA Wd (c_X0_otherEnd l D N cI cB cZ cM cJ cK a_t a_t_first a_t_second a_t_hours a_t_home a_t_feet a_t_far t_corners t_streets t_leaders t_first t_second u2) (cwV 1 S.2.2.2.2 gX0_wantedWay_X0_otherEnd rfl rfl rfl n_X0_otherEnd ⟨Nat.le_of_ble_eq_true rfl, Nat.le_of_ble_eq_true rfl⟩) hu5 [0, 1, 2] rfl rfl 0 0 rfl rfl rfl rfl rfl rfl rfl hl.1 rfl (Nat.le_of_ble_eq_true rfl) dX0_wantedWay_58 ⟨Nat.zero_le _, Nat.zero_le _⟩ (fun H locs Wd => ?_)
            obtain ⟨h6, hf⟩ := g_gi hF hf
            refine g_aldA (a := a_t_far) (x := r_t_far u5.toNatClampNeg) S hK Wd 4 5 rfl rfl h6 (famR_at (g_lt h6)) dX0_wantedWay_61 ?_
            refine lv_iload_n S.1 S.2.1 dX0_wantedWay_62 rfl (lv_at hl 3 rfl) ?_
            obtain ⟨h7, hf⟩ := g_gi hF hf
            refine g_faald (r := r_t_far) (f := t_far) S hK Wd 5 rfl rfl (g_lt h6) h7 dX0_wantedWay_63 ?_
            refine lv_istore (lv' := [(9, .int (t_far u5.toNatClampNeg x2.toNatClampNeg)), (8, .int u2), (0, .ref a_t), (1, .int x1), (2, .int x2), (3, .int x3), (4, .int x4), (5, .int x5), (6, .int x6), (7, .int x7)]) S.1 S.2.1 dX0_wantedWay_64 hl (by decide) rfl (fun ls hl => ?_)
            refine lv_iload S.1 S.2.1 dX0_wantedWay_66 (lv_at hl 6 rfl) ?_
            refine lv_bipush (v := (-9)) S.1 S.2.1 dX0_wantedWay_68 (by decide) ?_
            refine lv_icmp_eq (tgt := 99) S.1 S.2.1 dX0_wantedWay_70 rfl (fun c8 => ?_) (fun c8 => ?_)
            · have hf := g_if hf c8
              exact b99 (fun x4 x5 x6 x7 => fX0_wantedWay_b13 N t_streets t_first t_second t_hours t_far x1 x2 x3 n x4 x5 x6 x7) ih x7 u2 (t_far u5.toNatClampNeg x2.toNatClampNeg) _ _ _ Wd (lv_sub hl [2, 3, 4, 5, 9, 1, 0] rfl) hf
            · have hf := g_ifn hf c8
              refine lv_iload S.1 S.2.1 dX0_wantedWay_73 (lv_at hl 0 rfl) ?_
              refine lv_iload S.1 S.2.1 dX0_wantedWay_75 (lv_at hl 7 rfl) ?_
              refine lv_icmp_lt (tgt := 99) S.1 S.2.1 dX0_wantedWay_77 rfl (fun c9 => ?_) (fun c9 => ?_)
              · have hf := g_if hf c9
                exact b99 (fun x4 x5 x6 x7 => fX0_wantedWay_b13 N t_streets t_first t_second t_hours t_far x1 x2 x3 n x4 x5 x6 x7) ih x7 u2 (t_far u5.toNatClampNeg x2.toNatClampNeg) _ _ _ Wd (lv_sub hl [2, 3, 4, 5, 9, 1, 0] rfl) hf
              · have hf := g_ifn hf c9
                refine lv_iload S.1 S.2.1 dX0_wantedWay_80 (lv_at hl 0 rfl) ?_
                refine lv_iload S.1 S.2.1 dX0_wantedWay_82 (lv_at hl 7 rfl) ?_
                refine lv_icmp_ne (tgt := 116) S.1 S.2.1 dX0_wantedWay_84 rfl (fun c10 => ?_) (fun c10 => ?_)
                · have hf := g_ifn hf c10
                  exact b116 (fun x4 x5 x6 x7 => fX0_wantedWay_b13 N t_streets t_first t_second t_hours t_far x1 x2 x3 n x4 x5 x6 x7) ih x4 x5 x6 x7 _ _ _ Wd (lv_sub hl [2, 3, 4, 5, 6, 7, 8, 9] rfl) hf
                · have hf := g_if hf c10
                  refine lv_aload_n S.1 S.2.1 dX0_wantedWay_87 rfl (lv_at hl 2 rfl) ?_
                  refine g_get (a := a_t) S hK Wd iX0_wantedWay_X0 0 rfl rfl 5 rfl rfl kX0_wantedWay_3 rfl dX0_wantedWay_88 ?_
                  refine lv_iload S.1 S.2.1 dX0_wantedWay_91 (lv_at hl 9 rfl) ?_
                  obtain ⟨h11, hf⟩ := g_gi hF hf
                  refine g_iald (a := a_t_hours) S hK Wd 3 0 rfl rfl h11 dX0_wantedWay_93 ?_
                  refine lv_iload S.1 S.2.1 dX0_wantedWay_94 (lv_at hl 8 rfl) ?_
                  refine lv_icmp_ge (tgt := 116) S.1 S.2.1 dX0_wantedWay_96 rfl (fun c12 => ?_) (fun c12 => ?_)
                  · have hf := g_if hf c12
                    exact b116 (fun x4 x5 x6 x7 => fX0_wantedWay_b13 N t_streets t_first t_second t_hours t_far x1 x2 x3 n x4 x5 x6 x7) ih x4 x5 x6 x7 _ _ _ Wd (lv_sub hl [2, 3, 4, 5, 6, 7, 8, 9] rfl) hf
                  · have hf := g_ifn hf c12
                    exact b99 (fun x4 x5 x6 x7 => fX0_wantedWay_b13 N t_streets t_first t_second t_hours t_far x1 x2 x3 n x4 x5 x6 x7) ih x7 u2 (t_far u5.toNatClampNeg x2.toNatClampNeg) _ _ _ Wd (lv_sub hl [2, 3, 4, 5, 9, 1, 0] rfl) hf
          · have hf := g_if hf c4
            refine lv_goto (tgt := 116) S.1 S.2.1 dX0_wantedWay_48 rfl ?_
            exact b116 (fun x4 x5 x6 x7 => fX0_wantedWay_b13 N t_streets t_first t_second t_hours t_far x1 x2 x3 n x4 x5 x6 x7) ih x4 x5 x6 x7 _ _ _ Wd (lv_sub hl [1, 2, 3, 4, 5, 6, 7, 8] rfl) hf
  refine lv_bipush (v := (-9)) S.1 S.2.1 dX0_wantedWay_0 (by decide) ?_
  refine lv_istore (lv' := [(4, .int (-9 : Int32)), (0, .ref a_t), (1, .int x1), (2, .int x2), (3, .int x3)]) S.1 S.2.1 dX0_wantedWay_2 hl (by decide) rfl (fun ls hl => ?_)
  refine lv_iconst (v := 0) S.1 S.2.1 dX0_wantedWay_4 (by decide) ?_
  refine lv_istore (lv' := [(5, .int (0 : Int32)), (4, .int (-9 : Int32)), (0, .ref a_t), (1, .int x1), (2, .int x2), (3, .int x3)]) S.1 S.2.1 dX0_wantedWay_5 hl (by decide) rfl (fun ls hl => ?_)
  refine lv_iconst (v := 0) S.1 S.2.1 dX0_wantedWay_7 (by decide) ?_
  refine lv_istore (lv' := [(6, .int (0 : Int32)), (5, .int (0 : Int32)), (4, .int (-9 : Int32)), (0, .ref a_t), (1, .int x1), (2, .int x2), (3, .int x3)]) S.1 S.2.1 dX0_wantedWay_8 hl (by decide) rfl (fun ls hl => ?_)
  refine lv_iconst (v := 0) S.1 S.2.1 dX0_wantedWay_10 (by decide) ?_
  refine lv_istore (lv' := [(7, .int (0 : Int32)), (6, .int (0 : Int32)), (5, .int (0 : Int32)), (4, .int (-9 : Int32)), (0, .ref a_t), (1, .int x1), (2, .int x2), (3, .int x3)]) S.1 S.2.1 dX0_wantedWay_11 hl (by decide) rfl (fun ls hl => ?_)
  exact b13  N (-9 : Int32) (0 : Int32) (0 : Int32) (0 : Int32) _ _ _ Wd (lv_sub hl [4, 5, 6, 7, 3, 2, 1, 0] rfl) hf
def wX0_hoursOf (cI cB cZ cM cJ cK : ClassId) (a_t a_t_first a_t_second a_t_hours a_t_home a_t_feet a_t_far : Nat) (t_corners t_streets t_leaders : Int32) (t_hours : Nat → Int32) : List va_W := [[(a_t, .inr (0, [.int t_corners, .int t_streets, .int t_leaders, .ref a_t_first, .ref a_t_second, .ref a_t_hours, .ref a_t_home, .ref a_t_feet, .ref a_t_far]))], [(a_t_hours, .inl (cI, 12, .inl t_hours))]]
def rmX0_hoursOf : Room := { frames := 0, cells := 0, slots := 0, locals := 0 }
theorem kX0_hoursOf_1 : Cond.fieldLink RX0 18 "FeastMarch$City" "hours" "[I" ∈ wsX0_hoursOf := List.mem_of_getElem? (i := 1) rfl
theorem iX0_hoursOf_X0 : ∀ w ∈ wsX00, w ∈ wsX0_hoursOf := fun _ h => List.mem_cons_of_mem _ (List.mem_append_right _ h)
theorem n_X0_hoursOf : yX0_hoursOf.cls = RX0 ∧ yX0_hoursOf.cls ≠ "java/lang/invoke/MethodHandle" ∧ yX0_hoursOf.cls ≠ "java/lang/invoke/VarHandle" ∧ (parseMethodDescriptor yX0_hoursOf.desc).map (fun d => d.parameters.length) = some 1 := by decide +kernel
set_option maxHeartbeats 4000000 in
set_option maxRecDepth 100000 in
theorem c_X0_hoursOf (l : Launch) (D : va_G) (N : Nat) (cI cB cZ cM cJ cK : ClassId) (a_t a_t_first a_t_second a_t_hours a_t_home a_t_feet a_t_far : Nat) (t_corners t_streets t_leaders : Int32) (t_hours : Nat → Int32) (x1 : Int32) : gM l yX0_hoursOf wsX0_hoursOf rmX0_hoursOf D (gT cI cB cZ cM cJ cK) (wX0_hoursOf cI cB cZ cM cJ cK  a_t a_t_first a_t_second a_t_hours a_t_home a_t_feet a_t_far t_corners t_streets t_leaders t_hours) [.ref a_t, .int x1] (fX0_hoursOf N t_hours x1) (fun _u : Int32 => some (.int _u)) (fun _u : Int32 => (wX0_hoursOf cI cB cZ cM cJ cK  a_t a_t_first a_t_second a_t_hours a_t_home a_t_feet a_t_far t_corners t_streets t_leaders t_hours)) := by
  refine g_start (cc := cX0_hoursOf) (maxL := 2) (ret := (some .int)) (by decide) rfl (Nat.le_of_ble_eq_true rfl) ?_
  intro F hf hF p e s m below meth c A ls S hK hA Wd hr hlk hnm hl
  refine lv_aload_n S.1 S.2.1 dX0_hoursOf_0 rfl (lv_at hl 0 rfl) ?_
  refine g_get (a := a_t) S hK Wd iX0_hoursOf_X0 0 rfl rfl 5 rfl rfl kX0_hoursOf_1 rfl dX0_hoursOf_1 ?_
  refine lv_iload_n S.1 S.2.1 dX0_hoursOf_4 rfl (lv_at hl 1 rfl) ?_
  refine lv_bipush (v := 12) S.1 S.2.1 dX0_hoursOf_5 (by decide) ?_
  refine lv_irem S.1 S.2.1 dX0_hoursOf_7 (by decide) ?_
  obtain ⟨h1, hf⟩ := g_gi hF hf
  refine g_iald (a := a_t_hours) S hK Wd 1 0 rfl rfl h1 dX0_hoursOf_8 ?_
  exact g_iret S Wd hr hlk dX0_hoursOf_9 (t_hours (x1 - x1 / (12 : Int32) * (12 : Int32)).toNatClampNeg) hf rfl rfl
def wJ6_bitCount_0f7a4 (cI cB cZ cM cJ cK : ClassId)  : List va_W := []
def rmJ6_bitCount_0f7a4 : Room := { frames := 0, cells := 0, slots := 0, locals := 0 }
theorem kJ6_bitCount_0f7a4_1 : Cond.constant RJ6 265 (1431655765) ∈ wsJ6_bitCount_0f7a4 := List.mem_of_getElem? (i := 1) rfl
theorem kJ6_bitCount_0f7a4_2 : Cond.constant RJ6 266 (858993459) ∈ wsJ6_bitCount_0f7a4 := List.mem_of_getElem? (i := 2) rfl
theorem kJ6_bitCount_0f7a4_3 : Cond.constant RJ6 267 (252645135) ∈ wsJ6_bitCount_0f7a4 := List.mem_of_getElem? (i := 3) rfl
theorem n_J6_bitCount_0f7a4 : yJ6_bitCount_0f7a4.cls ≠ "java/lang/invoke/MethodHandle" ∧ yJ6_bitCount_0f7a4.cls ≠ "java/lang/invoke/VarHandle" ∧ (parseMethodDescriptor yJ6_bitCount_0f7a4.desc).map (fun d => d.parameters.length) = some 1 := by decide +kernel
set_option maxHeartbeats 4000000 in
set_option maxRecDepth 100000 in
theorem c_J6_bitCount_0f7a4 (l : Launch) (D : va_G) (N : Nat) (cI cB cZ cM cJ cK : ClassId) (z0 : Int32) : gM l yJ6_bitCount_0f7a4 wsJ6_bitCount_0f7a4 rmJ6_bitCount_0f7a4 D (gT cI cB cZ cM cJ cK) (wJ6_bitCount_0f7a4 cI cB cZ cM cJ cK   ) [.int z0] (fJ6_bitCount_0f7a4 N z0) (fun _u : Int32 => some (.int _u)) (fun _u : Int32 => (wJ6_bitCount_0f7a4 cI cB cZ cM cJ cK   )) := by
  refine g_start (cc := cJ6_bitCount_0f7a4) (maxL := 1) (ret := (some .int)) (by decide) rfl (Nat.le_of_ble_eq_true rfl) ?_
  intro F hf hF p e s m below meth c A ls S hK hA Wd hr hlk hnm hl
  have b48 : ∀ (x0 : Int32) (H1 : Heap) (locs1 : List Loc) (ls1 : Array Slot), gw D A s.heap (wJ6_bitCount_0f7a4 cI cB cZ cM cJ cK   ) H1 locs1 → lv_has ls1 1 [(0, .int x0)] → F = fJ6_bitCount_0f7a4_b48 N  x0 → W p l e rmJ6_bitCount_0f7a4 s m [.int z0].toArray below meth c H1 locs1 0 0 (MQ below (gQ F (fun _u : Int32 => some (.int _u)) (fun _u : Int32 => (wJ6_bitCount_0f7a4 cI cB cZ cM cJ cK   )) D A) [.int z0].toArray s 0 0 A) (F0 m 48 ls1 []) := by
    intro  x0 H locs ls Wd hl hf
    refine lv_iload_n S.1 S.2.1 dJ6_bitCount_0f7a4_48 rfl (lv_at hl 0 rfl) ?_
    refine lv_bipush (v := 63) S.1 S.2.1 dJ6_bitCount_0f7a4_49 (by decide) ?_
    refine lv_iand S.1 S.2.1 dJ6_bitCount_0f7a4_51 ?_
    exact g_iret S Wd hr hlk dJ6_bitCount_0f7a4_52 (x0 &&& (63 : Int32)) hf rfl rfl
  have b41 : ∀ (x0 : Int32) (H1 : Heap) (locs1 : List Loc) (ls1 : Array Slot), gw D A s.heap (wJ6_bitCount_0f7a4 cI cB cZ cM cJ cK   ) H1 locs1 → lv_has ls1 1 [(0, .int x0)] → F = fJ6_bitCount_0f7a4_b41 N  x0 → W p l e rmJ6_bitCount_0f7a4 s m [.int z0].toArray below meth c H1 locs1 0 0 (MQ below (gQ F (fun _u : Int32 => some (.int _u)) (fun _u : Int32 => (wJ6_bitCount_0f7a4 cI cB cZ cM cJ cK   )) D A) [.int z0].toArray s 0 0 A) (F0 m 41 ls1 []) := by
    intro  x0 H locs ls Wd hl hf
    refine lv_iload_n S.1 S.2.1 dJ6_bitCount_0f7a4_41 rfl (lv_at hl 0 rfl) ?_
    refine lv_iload_n S.1 S.2.1 dJ6_bitCount_0f7a4_42 rfl (lv_at hl 0 rfl) ?_
    refine lv_bipush (v := 16) S.1 S.2.1 dJ6_bitCount_0f7a4_43 (by decide) ?_
    refine lv_iushr S.1 S.2.1 dJ6_bitCount_0f7a4_45 rfl ?_
    refine lv_iadd S.1 S.2.1 dJ6_bitCount_0f7a4_46 ?_
    refine lv_istore_n (lv' := [(0, .int (x0 + (x0.toUInt32 >>> ((16 : Int32).toUInt32 &&& Int32.toUInt32 31)).toInt32))]) S.1 S.2.1 dJ6_bitCount_0f7a4_47 rfl hl (by decide) rfl (fun ls hl => ?_)
    exact b48  (x0 + (x0.toUInt32 >>> ((16 : Int32).toUInt32 &&& Int32.toUInt32 31)).toInt32) _ _ _ Wd hl hf
  have b34 : ∀ (x0 : Int32) (H1 : Heap) (locs1 : List Loc) (ls1 : Array Slot), gw D A s.heap (wJ6_bitCount_0f7a4 cI cB cZ cM cJ cK   ) H1 locs1 → lv_has ls1 1 [(0, .int x0)] → F = fJ6_bitCount_0f7a4_b34 N  x0 → W p l e rmJ6_bitCount_0f7a4 s m [.int z0].toArray below meth c H1 locs1 0 0 (MQ below (gQ F (fun _u : Int32 => some (.int _u)) (fun _u : Int32 => (wJ6_bitCount_0f7a4 cI cB cZ cM cJ cK   )) D A) [.int z0].toArray s 0 0 A) (F0 m 34 ls1 []) := by
    intro  x0 H locs ls Wd hl hf
    refine lv_iload_n S.1 S.2.1 dJ6_bitCount_0f7a4_34 rfl (lv_at hl 0 rfl) ?_
    refine lv_iload_n S.1 S.2.1 dJ6_bitCount_0f7a4_35 rfl (lv_at hl 0 rfl) ?_
    refine lv_bipush (v := 8) S.1 S.2.1 dJ6_bitCount_0f7a4_36 (by decide) ?_
    refine lv_iushr S.1 S.2.1 dJ6_bitCount_0f7a4_38 rfl ?_
    refine lv_iadd S.1 S.2.1 dJ6_bitCount_0f7a4_39 ?_
    refine lv_istore_n (lv' := [(0, .int (x0 + (x0.toUInt32 >>> ((8 : Int32).toUInt32 &&& Int32.toUInt32 31)).toInt32))]) S.1 S.2.1 dJ6_bitCount_0f7a4_40 rfl hl (by decide) rfl (fun ls hl => ?_)
    exact b41  (x0 + (x0.toUInt32 >>> ((8 : Int32).toUInt32 &&& Int32.toUInt32 31)).toInt32) _ _ _ Wd hl hf
  have b24 : ∀ (x0 : Int32) (H1 : Heap) (locs1 : List Loc) (ls1 : Array Slot), gw D A s.heap (wJ6_bitCount_0f7a4 cI cB cZ cM cJ cK   ) H1 locs1 → lv_has ls1 1 [(0, .int x0)] → F = fJ6_bitCount_0f7a4_b24 N  x0 → W p l e rmJ6_bitCount_0f7a4 s m [.int z0].toArray below meth c H1 locs1 0 0 (MQ below (gQ F (fun _u : Int32 => some (.int _u)) (fun _u : Int32 => (wJ6_bitCount_0f7a4 cI cB cZ cM cJ cK   )) D A) [.int z0].toArray s 0 0 A) (F0 m 24 ls1 []) := by
    intro  x0 H locs ls Wd hl hf
    refine lv_iload_n S.1 S.2.1 dJ6_bitCount_0f7a4_24 rfl (lv_at hl 0 rfl) ?_
    refine lv_iload_n S.1 S.2.1 dJ6_bitCount_0f7a4_25 rfl (lv_at hl 0 rfl) ?_
    refine lv_iconst (v := 4) S.1 S.2.1 dJ6_bitCount_0f7a4_26 (by decide) ?_
    refine lv_iushr S.1 S.2.1 dJ6_bitCount_0f7a4_27 rfl ?_
    refine lv_iadd S.1 S.2.1 dJ6_bitCount_0f7a4_28 ?_
    refine lv_ldcw S.1 S.2.1 S.2.2.2.1 (S.2.2.2.2 _ kJ6_bitCount_0f7a4_3) dJ6_bitCount_0f7a4_29 ?_
    refine lv_iand S.1 S.2.1 dJ6_bitCount_0f7a4_32 ?_
    refine lv_istore_n (lv' := [(0, .int ((x0 + (x0.toUInt32 >>> ((4 : Int32).toUInt32 &&& Int32.toUInt32 31)).toInt32) &&& (252645135 : Int32)))]) S.1 S.2.1 dJ6_bitCount_0f7a4_33 rfl hl (by decide) rfl (fun ls hl => ?_)
    exact b34  ((x0 + (x0.toUInt32 >>> ((4 : Int32).toUInt32 &&& Int32.toUInt32 31)).toInt32) &&& (252645135 : Int32)) _ _ _ Wd hl hf
  have b10 : ∀ (x0 : Int32) (H1 : Heap) (locs1 : List Loc) (ls1 : Array Slot), gw D A s.heap (wJ6_bitCount_0f7a4 cI cB cZ cM cJ cK   ) H1 locs1 → lv_has ls1 1 [(0, .int x0)] → F = fJ6_bitCount_0f7a4_b10 N  x0 → W p l e rmJ6_bitCount_0f7a4 s m [.int z0].toArray below meth c H1 locs1 0 0 (MQ below (gQ F (fun _u : Int32 => some (.int _u)) (fun _u : Int32 => (wJ6_bitCount_0f7a4 cI cB cZ cM cJ cK   )) D A) [.int z0].toArray s 0 0 A) (F0 m 10 ls1 []) := by
    intro  x0 H locs ls Wd hl hf
    refine lv_iload_n S.1 S.2.1 dJ6_bitCount_0f7a4_10 rfl (lv_at hl 0 rfl) ?_
    refine lv_ldcw S.1 S.2.1 S.2.2.2.1 (S.2.2.2.2 _ kJ6_bitCount_0f7a4_2) dJ6_bitCount_0f7a4_11 ?_
    refine lv_iand S.1 S.2.1 dJ6_bitCount_0f7a4_14 ?_
    refine lv_iload_n S.1 S.2.1 dJ6_bitCount_0f7a4_15 rfl (lv_at hl 0 rfl) ?_
    refine lv_iconst (v := 2) S.1 S.2.1 dJ6_bitCount_0f7a4_16 (by decide) ?_
    refine lv_iushr S.1 S.2.1 dJ6_bitCount_0f7a4_17 rfl ?_
    refine lv_ldcw S.1 S.2.1 S.2.2.2.1 (S.2.2.2.2 _ kJ6_bitCount_0f7a4_2) dJ6_bitCount_0f7a4_18 ?_
    refine lv_iand S.1 S.2.1 dJ6_bitCount_0f7a4_21 ?_
    refine lv_iadd S.1 S.2.1 dJ6_bitCount_0f7a4_22 ?_
    refine lv_istore_n (lv' := [(0, .int ((x0 &&& (858993459 : Int32)) + ((x0.toUInt32 >>> ((2 : Int32).toUInt32 &&& Int32.toUInt32 31)).toInt32 &&& (858993459 : Int32))))]) S.1 S.2.1 dJ6_bitCount_0f7a4_23 rfl hl (by decide) rfl (fun ls hl => ?_)
    exact b24  ((x0 &&& (858993459 : Int32)) + ((x0.toUInt32 >>> ((2 : Int32).toUInt32 &&& Int32.toUInt32 31)).toInt32 &&& (858993459 : Int32))) _ _ _ Wd hl hf
  refine lv_iload_n S.1 S.2.1 dJ6_bitCount_0f7a4_0 rfl (lv_at hl 0 rfl) ?_
  refine lv_iload_n S.1 S.2.1 dJ6_bitCount_0f7a4_1 rfl (lv_at hl 0 rfl) ?_
  refine lv_iconst (v := 1) S.1 S.2.1 dJ6_bitCount_0f7a4_2 (by decide) ?_
  refine lv_iushr S.1 S.2.1 dJ6_bitCount_0f7a4_3 rfl ?_
  refine lv_ldcw S.1 S.2.1 S.2.2.2.1 (S.2.2.2.2 _ kJ6_bitCount_0f7a4_1) dJ6_bitCount_0f7a4_4 ?_
  refine lv_iand S.1 S.2.1 dJ6_bitCount_0f7a4_7 ?_
  refine lv_isub S.1 S.2.1 dJ6_bitCount_0f7a4_8 ?_
  refine lv_istore_n (lv' := [(0, .int (z0 - ((z0.toUInt32 >>> ((1 : Int32).toUInt32 &&& Int32.toUInt32 31)).toInt32 &&& (1431655765 : Int32))))]) S.1 S.2.1 dJ6_bitCount_0f7a4_9 rfl hl (by decide) rfl (fun ls hl => ?_)
  exact b10  (z0 - ((z0.toUInt32 >>> ((1 : Int32).toUInt32 &&& Int32.toUInt32 31)).toInt32 &&& (1431655765 : Int32))) _ _ _ Wd hl hf
