def wX10_in (cI cB cZ cM cJ cK : ClassId)  : List va_W := []
def rmX10_in : Room := { frames := 0, cells := 0, slots := 0, locals := 0 }
theorem n_X10_in : yX10_in.cls ≠ "java/lang/invoke/MethodHandle" ∧ yX10_in.cls ≠ "java/lang/invoke/VarHandle" ∧ (parseMethodDescriptor yX10_in.desc).map (fun d => d.parameters.length) = some 3 := by decide +kernel
set_option maxHeartbeats 4000000 in
set_option maxRecDepth 100000 in
theorem c_X10_in (l : Launch) (D : va_G) (N : Nat) (cI cB cZ cM cJ cK : ClassId) (x0 x1 x2 : Int32) : gM l yX10_in wsX10_in rmX10_in D (gT cI cB cZ cM cJ cK) (wX10_in cI cB cZ cM cJ cK   ) [.int x0, .int x1, .int x2] (fX10_in N x0 x1 x2) (fun _u : Int32 => some (.int _u)) (fun _u : Int32 => (wX10_in cI cB cZ cM cJ cK   )) := by
  refine g_start (cc := cX10_in) (maxL := 3) (ret := (some .boolean)) (by decide) rfl (Nat.le_of_ble_eq_true rfl) ?_
  intro F hf hF p e s m below meth c A ls S hK hA Wd hr hlk hnm hl
  refine lv_iload_n S.1 S.2.1 dX10_in_0 rfl (lv_at hl 0 rfl) ?_
  refine lv_iload_n S.1 S.2.1 dX10_in_1 rfl (lv_at hl 1 rfl) ?_
  refine lv_icmp_lt (tgt := 14) S.1 S.2.1 dX10_in_2 rfl (fun c1 => ?_) (fun c1 => ?_)
  · have hf := g_if hf c1
    refine lv_iconst (v := 0) S.1 S.2.1 dX10_in_14 (by decide) ?_
    exact g_zret S Wd hr hlk rfl dX10_in_15 (0 : Int32) hf rfl rfl
  · have hf := g_ifn hf c1
    refine lv_iload_n S.1 S.2.1 dX10_in_5 rfl (lv_at hl 0 rfl) ?_
    refine lv_iload_n S.1 S.2.1 dX10_in_6 rfl (lv_at hl 2 rfl) ?_
    refine lv_icmp_gt (tgt := 14) S.1 S.2.1 dX10_in_7 rfl (fun c2 => ?_) (fun c2 => ?_)
    · have hf := g_if hf c2
      refine lv_iconst (v := 0) S.1 S.2.1 dX10_in_14 (by decide) ?_
      exact g_zret S Wd hr hlk rfl dX10_in_15 (0 : Int32) hf rfl rfl
    · have hf := g_ifn hf c2
      refine lv_iconst (v := 1) S.1 S.2.1 dX10_in_10 (by decide) ?_
      refine lv_goto (tgt := 15) S.1 S.2.1 dX10_in_11 rfl ?_
      exact g_zret S Wd hr hlk rfl dX10_in_15 (1 : Int32) hf rfl rfl
def wX10_type (cI cB cZ cM cJ cK : ClassId) (a_t a_t_text a_t_corners a_t_streets a_t_ends a_t_time a_t_leaders a_t_home a_t_feet a_t_far a_t_now a_t_isKept a_t_tried a_t_row a_t_who a_t_then a_t_best a_t_seenAs a_t_seenAt a_t_plan : Nat) (t_trace : Int64) (t_typed t_at t_start t_sort t_value t_fault t_rowLong t_homes t_bestValue t_seen t_planMany : Int32) (t_text : Nat → Int32) : List va_W := [[(a_t, .inr (10, [.long t_trace, .ref a_t_text, .int t_typed, .ref a_t_corners, .ref a_t_streets, .ref a_t_ends, .ref a_t_time, .ref a_t_leaders, .ref a_t_home, .ref a_t_feet, .int t_at, .int t_start, .int t_sort, .int t_value, .int t_fault, .ref a_t_far, .ref a_t_now, .ref a_t_isKept, .ref a_t_tried, .ref a_t_row, .int t_rowLong, .ref a_t_who, .ref a_t_then, .int t_homes, .ref a_t_best, .int t_bestValue, .ref a_t_seenAs, .ref a_t_seenAt, .int t_seen, .ref a_t_plan, .int t_planMany]))], [(a_t_text, .inl (cB, 150, .inl t_text))]]
def rmX10_type : Room := { frames := 1, cells := 0, slots := 0, locals := 22 }
theorem kX10_type_1 : Cond.fieldLink RX10 79 "FeastMarchModel" "typed" "I" ∈ wsX10_type := List.mem_of_getElem? (i := 1) rfl
theorem kX10_type_2 : Cond.fieldLink RX10 7 "FeastMarchModel" "text" "[B" ∈ wsX10_type := List.mem_of_getElem? (i := 2) rfl
theorem iX10_type_X10 : ∀ w ∈ wsX100, w ∈ wsX10_type := fun _ h => List.mem_cons_of_mem _ (List.mem_append_right _ h)
theorem n_X10_type : yX10_type.cls = RX10 ∧ yX10_type.cls ≠ "java/lang/invoke/MethodHandle" ∧ yX10_type.cls ≠ "java/lang/invoke/VarHandle" ∧ (parseMethodDescriptor yX10_type.desc).map (fun d => d.parameters.length) = some 1 := by decide +kernel
set_option maxHeartbeats 4000000 in
set_option maxRecDepth 100000 in
theorem c_X10_type (l : Launch) (D : va_G) (N : Nat) (cI cB cZ cM cJ cK : ClassId) (a_t a_t_text a_t_corners a_t_streets a_t_ends a_t_time a_t_leaders a_t_home a_t_feet a_t_far a_t_now a_t_isKept a_t_tried a_t_row a_t_who a_t_then a_t_best a_t_seenAs a_t_seenAt a_t_plan : Nat) (t_trace : Int64) (t_typed t_at t_start t_sort t_value t_fault t_rowLong t_homes t_bestValue t_seen t_planMany : Int32) (t_text : Nat → Int32) (x1 : Int32) : gM l yX10_type wsX10_type rmX10_type D (gT cI cB cZ cM cJ cK) (wX10_type cI cB cZ cM cJ cK  a_t a_t_text a_t_corners a_t_streets a_t_ends a_t_time a_t_leaders a_t_home a_t_feet a_t_far a_t_now a_t_isKept a_t_tried a_t_row a_t_who a_t_then a_t_best a_t_seenAs a_t_seenAt a_t_plan t_trace t_typed t_at t_start t_sort t_value t_fault t_rowLong t_homes t_bestValue t_seen t_planMany t_text) [.ref a_t, .int x1] (fX10_type N t_typed t_text x1) (fun _u : Int32 × Int32 × (Nat → Int32) => some (.int _u.1)) (fun _u : Int32 × Int32 × (Nat → Int32) => (wX10_type cI cB cZ cM cJ cK  a_t a_t_text a_t_corners a_t_streets a_t_ends a_t_time a_t_leaders a_t_home a_t_feet a_t_far a_t_now a_t_isKept a_t_tried a_t_row a_t_who a_t_then a_t_best a_t_seenAs a_t_seenAt a_t_plan t_trace _u.2.1 t_at t_start t_sort t_value t_fault t_rowLong t_homes t_bestValue t_seen t_planMany _u.2.2)) := by
  refine g_start (cc := cX10_type) (maxL := 2) (ret := (some .int)) (by decide) rfl (Nat.le_of_ble_eq_true rfl) ?_
  intro F hf hF p e s m below meth c A ls S hK hA Wd hr hlk hnm hl
  refine lv_iload_n S.1 S.2.1 dX10_type_0 rfl (lv_at hl 1 rfl) ?_
  refine lv_iconst (v := 0) S.1 S.2.1 dX10_type_1 (by decide) ?_
  refine lv_sipush (v := 255) S.1 S.2.1 dX10_type_2 (by decide) ?_
  obtain ⟨u1, hu1, hf⟩ := g_bind hF hf
  refine g_callS (ws' := (wX10_type cI cB cZ cM cJ cK  a_t a_t_text a_t_corners a_t_streets a_t_ends a_t_time a_t_leaders a_t_home a_t_feet a_t_far a_t_now a_t_isKept a_t_tried a_t_row a_t_who a_t_then a_t_best a_t_seenAs a_t_seenAt a_t_plan t_trace t_typed t_at t_start t_sort t_value t_fault t_rowLong t_homes t_bestValue t_seen t_planMany t_text)) (As := [.int x1, .int (0 : Int32), .int (255 : Int32)]) (rest := []) (st1 := [.int u1]) S hK hA Wd (c_X10_in l D N cI cB cZ cM cJ cK x1 (0 : Int32) (255 : Int32)) (va_cwS 3 S.2.2.2.2 gX10_type_X10_in rfl rfl rfl n_X10_in ⟨Nat.le_of_ble_eq_true rfl, Nat.le_of_ble_eq_true rfl⟩) hu1 [] rfl rfl rfl rfl rfl rfl hl.1 rfl (Nat.le_of_ble_eq_true rfl) dX10_type_5 ⟨Nat.zero_le _, Nat.zero_le _⟩ (fun H locs Wd => ?_)
  refine lv_if_ne (tgt := 13) S.1 S.2.1 dX10_type_8 rfl (fun c2 => ?_) (fun c2 => ?_)
  · have hf := g_ifn hf c2
    refine lv_aload_n S.1 S.2.1 dX10_type_13 rfl (lv_at hl 0 rfl) ?_
    refine g_get (a := a_t) S hK Wd iX10_type_X10 0 rfl rfl 2 rfl rfl kX10_type_1 rfl dX10_type_14 ?_
    refine lv_sipush (v := 150) S.1 S.2.1 dX10_type_17 (by decide) ?_
    refine lv_icmp_ne (tgt := 26) S.1 S.2.1 dX10_type_20 rfl (fun c3 => ?_) (fun c3 => ?_)
    · have hf := g_ifn hf c3
      refine lv_aload_n S.1 S.2.1 dX10_type_26 rfl (lv_at hl 0 rfl) ?_
      refine g_get (a := a_t) S hK Wd iX10_type_X10 0 rfl rfl 1 rfl rfl kX10_type_2 rfl dX10_type_27 ?_
      refine lv_aload_n S.1 S.2.1 dX10_type_30 rfl (lv_at hl 0 rfl) ?_
      refine g_get (a := a_t) S hK Wd iX10_type_X10 0 rfl rfl 2 rfl rfl kX10_type_1 rfl dX10_type_31 ?_
      refine lv_iload_n S.1 S.2.1 dX10_type_34 rfl (lv_at hl 1 rfl) ?_
      refine lv_i2b S.1 S.2.1 dX10_type_35 rfl ?_
      obtain ⟨h4, hf⟩ := g_gi hF hf
      refine g_bast (a := a_t_text) (ws' := (wX10_type cI cB cZ cM cJ cK  a_t a_t_text a_t_corners a_t_streets a_t_ends a_t_time a_t_leaders a_t_home a_t_feet a_t_far a_t_now a_t_isKept a_t_tried a_t_row a_t_who a_t_then a_t_best a_t_seenAs a_t_seenAt a_t_plan t_trace t_typed t_at t_start t_sort t_value t_fault t_rowLong t_homes t_bestValue t_seen t_planMany (upd t_text t_typed.toNatClampNeg (vp_nar .byte x1.toInt8.toInt32)))) S hK Wd 1 1 rfl rfl h4 dX10_type_36 rfl (fun H locs Wd => ?_)
      refine lv_aload_n S.1 S.2.1 dX10_type_37 rfl (lv_at hl 0 rfl) ?_
      refine lv_dup S.1 S.2.1 dX10_type_38 rfl ?_
      refine g_get (a := a_t) S hK Wd iX10_type_X10 0 rfl rfl 2 rfl rfl kX10_type_1 rfl dX10_type_39 ?_
      refine lv_iconst (v := 1) S.1 S.2.1 dX10_type_42 (by decide) ?_
      refine lv_iadd S.1 S.2.1 dX10_type_43 ?_
      refine g_put (a := a_t) (ws' := (wX10_type cI cB cZ cM cJ cK  a_t a_t_text a_t_corners a_t_streets a_t_ends a_t_time a_t_leaders a_t_home a_t_feet a_t_far a_t_now a_t_isKept a_t_tried a_t_row a_t_who a_t_then a_t_best a_t_seenAs a_t_seenAt a_t_plan t_trace (t_typed + (1 : Int32)) t_at t_start t_sort t_value t_fault t_rowLong t_homes t_bestValue t_seen t_planMany (upd t_text t_typed.toNatClampNeg (vp_nar .byte x1.toInt8.toInt32)))) S hK Wd iX10_type_X10 tyX10 tyX10_ok nmX10 0 rfl rfl 2 rfl rfl kX10_type_1 rfl rfl rfl dX10_type_44 rfl (fun H locs Wd => ?_)
      refine lv_aload_n S.1 S.2.1 dX10_type_47 rfl (lv_at hl 0 rfl) ?_
      refine g_get (a := a_t) S hK Wd iX10_type_X10 0 rfl rfl 2 rfl rfl kX10_type_1 rfl dX10_type_48 ?_
      exact g_iret S Wd hr hlk dX10_type_51 ((t_typed + (1 : Int32)), (t_typed + (1 : Int32)), (upd t_text t_typed.toNatClampNeg (vp_nar .byte x1.toInt8.toInt32))) hf rfl rfl
    · have hf := g_if hf c3
      refine lv_bipush (v := (-3)) S.1 S.2.1 dX10_type_23 (by decide) ?_
      exact g_iret S Wd hr hlk dX10_type_25 ((-3 : Int32), t_typed, t_text) hf rfl rfl
  · have hf := g_if hf c2
    refine lv_iconst (v := (-1)) S.1 S.2.1 dX10_type_11 (by decide) ?_
    exact g_iret S Wd hr hlk dX10_type_12 ((-1 : Int32), t_typed, t_text) hf rfl rfl
def wX10_clear (cI cB cZ cM cJ cK : ClassId) (a_t a_t_text a_t_corners a_t_streets a_t_ends a_t_time a_t_leaders a_t_home a_t_feet a_t_far a_t_now a_t_isKept a_t_tried a_t_row a_t_who a_t_then a_t_best a_t_seenAs a_t_seenAt a_t_plan : Nat) (t_trace : Int64) (t_typed t_at t_start t_sort t_value t_fault t_rowLong t_homes t_bestValue t_seen t_planMany : Int32) : List va_W := [[(a_t, .inr (10, [.long t_trace, .ref a_t_text, .int t_typed, .ref a_t_corners, .ref a_t_streets, .ref a_t_ends, .ref a_t_time, .ref a_t_leaders, .ref a_t_home, .ref a_t_feet, .int t_at, .int t_start, .int t_sort, .int t_value, .int t_fault, .ref a_t_far, .ref a_t_now, .ref a_t_isKept, .ref a_t_tried, .ref a_t_row, .int t_rowLong, .ref a_t_who, .ref a_t_then, .int t_homes, .ref a_t_best, .int t_bestValue, .ref a_t_seenAs, .ref a_t_seenAt, .int t_seen, .ref a_t_plan, .int t_planMany]))]]
def rmX10_clear : Room := { frames := 0, cells := 0, slots := 0, locals := 0 }
theorem kX10_clear_1 : Cond.fieldLink RX10 79 "FeastMarchModel" "typed" "I" ∈ wsX10_clear := List.mem_of_getElem? (i := 1) rfl
theorem iX10_clear_X10 : ∀ w ∈ wsX100, w ∈ wsX10_clear := fun _ h => List.mem_cons_of_mem _ (List.mem_append_right _ h)
theorem n_X10_clear : yX10_clear.cls = RX10 ∧ yX10_clear.cls ≠ "java/lang/invoke/MethodHandle" ∧ yX10_clear.cls ≠ "java/lang/invoke/VarHandle" ∧ (parseMethodDescriptor yX10_clear.desc).map (fun d => d.parameters.length) = some 0 := by decide +kernel
set_option maxHeartbeats 4000000 in
set_option maxRecDepth 100000 in
theorem c_X10_clear (l : Launch) (D : va_G) (N : Nat) (cI cB cZ cM cJ cK : ClassId) (a_t a_t_text a_t_corners a_t_streets a_t_ends a_t_time a_t_leaders a_t_home a_t_feet a_t_far a_t_now a_t_isKept a_t_tried a_t_row a_t_who a_t_then a_t_best a_t_seenAs a_t_seenAt a_t_plan : Nat) (t_trace : Int64) (t_typed t_at t_start t_sort t_value t_fault t_rowLong t_homes t_bestValue t_seen t_planMany : Int32) : gM l yX10_clear wsX10_clear rmX10_clear D (gT cI cB cZ cM cJ cK) (wX10_clear cI cB cZ cM cJ cK  a_t a_t_text a_t_corners a_t_streets a_t_ends a_t_time a_t_leaders a_t_home a_t_feet a_t_far a_t_now a_t_isKept a_t_tried a_t_row a_t_who a_t_then a_t_best a_t_seenAs a_t_seenAt a_t_plan t_trace t_typed t_at t_start t_sort t_value t_fault t_rowLong t_homes t_bestValue t_seen t_planMany) [.ref a_t] (fX10_clear N t_typed) (fun _u : Int32 × Int32 => some (.int _u.1)) (fun _u : Int32 × Int32 => (wX10_clear cI cB cZ cM cJ cK  a_t a_t_text a_t_corners a_t_streets a_t_ends a_t_time a_t_leaders a_t_home a_t_feet a_t_far a_t_now a_t_isKept a_t_tried a_t_row a_t_who a_t_then a_t_best a_t_seenAs a_t_seenAt a_t_plan t_trace _u.2 t_at t_start t_sort t_value t_fault t_rowLong t_homes t_bestValue t_seen t_planMany)) := by
  refine g_start (cc := cX10_clear) (maxL := 2) (ret := (some .int)) (by decide) rfl (Nat.le_of_ble_eq_true rfl) ?_
  intro F hf hF p e s m below meth c A ls S hK hA Wd hr hlk hnm hl
  refine lv_aload_n S.1 S.2.1 dX10_clear_0 rfl (lv_at hl 0 rfl) ?_
  refine g_get (a := a_t) S hK Wd iX10_clear_X10 0 rfl rfl 2 rfl rfl kX10_clear_1 rfl dX10_clear_1 ?_
  refine lv_istore_n (lv' := [(1, .int t_typed), (0, .ref a_t)]) S.1 S.2.1 dX10_clear_4 rfl hl (by decide) rfl (fun ls hl => ?_)
  refine lv_aload_n S.1 S.2.1 dX10_clear_5 rfl (lv_at hl 1 rfl) ?_
  refine lv_iconst (v := 0) S.1 S.2.1 dX10_clear_6 (by decide) ?_
  refine g_put (a := a_t) (ws' := (wX10_clear cI cB cZ cM cJ cK  a_t a_t_text a_t_corners a_t_streets a_t_ends a_t_time a_t_leaders a_t_home a_t_feet a_t_far a_t_now a_t_isKept a_t_tried a_t_row a_t_who a_t_then a_t_best a_t_seenAs a_t_seenAt a_t_plan t_trace (0 : Int32) t_at t_start t_sort t_value t_fault t_rowLong t_homes t_bestValue t_seen t_planMany)) S hK Wd iX10_clear_X10 tyX10 tyX10_ok nmX10 0 rfl rfl 2 rfl rfl kX10_clear_1 rfl rfl rfl dX10_clear_7 rfl (fun H locs Wd => ?_)
  refine lv_iload_n S.1 S.2.1 dX10_clear_10 rfl (lv_at hl 0 rfl) ?_
  exact g_iret S Wd hr hlk dX10_clear_11 (t_typed, (0 : Int32)) hf rfl rfl
def wX10_here (cI cB cZ cM cJ cK : ClassId) (a_t a_t_text a_t_corners a_t_streets a_t_ends a_t_time a_t_leaders a_t_home a_t_feet a_t_far a_t_now a_t_isKept a_t_tried a_t_row a_t_who a_t_then a_t_best a_t_seenAs a_t_seenAt a_t_plan : Nat) (t_trace : Int64) (t_typed t_at t_start t_sort t_value t_fault t_rowLong t_homes t_bestValue t_seen t_planMany : Int32) (t_text : Nat → Int32) : List va_W := [[(a_t, .inr (10, [.long t_trace, .ref a_t_text, .int t_typed, .ref a_t_corners, .ref a_t_streets, .ref a_t_ends, .ref a_t_time, .ref a_t_leaders, .ref a_t_home, .ref a_t_feet, .int t_at, .int t_start, .int t_sort, .int t_value, .int t_fault, .ref a_t_far, .ref a_t_now, .ref a_t_isKept, .ref a_t_tried, .ref a_t_row, .int t_rowLong, .ref a_t_who, .ref a_t_then, .int t_homes, .ref a_t_best, .int t_bestValue, .ref a_t_seenAs, .ref a_t_seenAt, .int t_seen, .ref a_t_plan, .int t_planMany]))], [(a_t_text, .inl (cB, 150, .inl t_text))]]
def rmX10_here : Room := { frames := 0, cells := 0, slots := 0, locals := 0 }
theorem kX10_here_1 : Cond.fieldLink RX10 83 "FeastMarchModel" "at" "I" ∈ wsX10_here := List.mem_of_getElem? (i := 1) rfl
theorem kX10_here_2 : Cond.fieldLink RX10 79 "FeastMarchModel" "typed" "I" ∈ wsX10_here := List.mem_of_getElem? (i := 2) rfl
theorem kX10_here_3 : Cond.fieldLink RX10 7 "FeastMarchModel" "text" "[B" ∈ wsX10_here := List.mem_of_getElem? (i := 3) rfl
theorem iX10_here_X10 : ∀ w ∈ wsX100, w ∈ wsX10_here := fun _ h => List.mem_cons_of_mem _ (List.mem_append_right _ h)
theorem n_X10_here : yX10_here.cls = RX10 ∧ yX10_here.cls ≠ "java/lang/invoke/MethodHandle" ∧ yX10_here.cls ≠ "java/lang/invoke/VarHandle" ∧ (parseMethodDescriptor yX10_here.desc).map (fun d => d.parameters.length) = some 0 := by decide +kernel
set_option maxHeartbeats 4000000 in
set_option maxRecDepth 100000 in
theorem c_X10_here (l : Launch) (D : va_G) (N : Nat) (cI cB cZ cM cJ cK : ClassId) (a_t a_t_text a_t_corners a_t_streets a_t_ends a_t_time a_t_leaders a_t_home a_t_feet a_t_far a_t_now a_t_isKept a_t_tried a_t_row a_t_who a_t_then a_t_best a_t_seenAs a_t_seenAt a_t_plan : Nat) (t_trace : Int64) (t_typed t_at t_start t_sort t_value t_fault t_rowLong t_homes t_bestValue t_seen t_planMany : Int32) (t_text : Nat → Int32) : gM l yX10_here wsX10_here rmX10_here D (gT cI cB cZ cM cJ cK) (wX10_here cI cB cZ cM cJ cK  a_t a_t_text a_t_corners a_t_streets a_t_ends a_t_time a_t_leaders a_t_home a_t_feet a_t_far a_t_now a_t_isKept a_t_tried a_t_row a_t_who a_t_then a_t_best a_t_seenAs a_t_seenAt a_t_plan t_trace t_typed t_at t_start t_sort t_value t_fault t_rowLong t_homes t_bestValue t_seen t_planMany t_text) [.ref a_t] (fX10_here N t_typed t_at t_text) (fun _u : Int32 => some (.int _u)) (fun _u : Int32 => (wX10_here cI cB cZ cM cJ cK  a_t a_t_text a_t_corners a_t_streets a_t_ends a_t_time a_t_leaders a_t_home a_t_feet a_t_far a_t_now a_t_isKept a_t_tried a_t_row a_t_who a_t_then a_t_best a_t_seenAs a_t_seenAt a_t_plan t_trace t_typed t_at t_start t_sort t_value t_fault t_rowLong t_homes t_bestValue t_seen t_planMany t_text)) := by
  refine g_start (cc := cX10_here) (maxL := 1) (ret := (some .int)) (by decide) rfl (Nat.le_of_ble_eq_true rfl) ?_
  intro F hf hF p e s m below meth c A ls S hK hA Wd hr hlk hnm hl
  refine lv_aload_n S.1 S.2.1 dX10_here_0 rfl (lv_at hl 0 rfl) ?_
  refine g_get (a := a_t) S hK Wd iX10_here_X10 0 rfl rfl 10 rfl rfl kX10_here_1 rfl dX10_here_1 ?_
  refine lv_aload_n S.1 S.2.1 dX10_here_4 rfl (lv_at hl 0 rfl) ?_
  refine g_get (a := a_t) S hK Wd iX10_here_X10 0 rfl rfl 2 rfl rfl kX10_here_2 rfl dX10_here_5 ?_
  refine lv_icmp_ge (tgt := 27) S.1 S.2.1 dX10_here_8 rfl (fun c1 => ?_) (fun c1 => ?_)
  · have hf := g_if hf c1
    refine lv_iconst (v := (-1)) S.1 S.2.1 dX10_here_27 (by decide) ?_
    exact g_iret S Wd hr hlk dX10_here_28 (-1 : Int32) hf rfl rfl
  · have hf := g_ifn hf c1
    refine lv_aload_n S.1 S.2.1 dX10_here_11 rfl (lv_at hl 0 rfl) ?_
    refine g_get (a := a_t) S hK Wd iX10_here_X10 0 rfl rfl 1 rfl rfl kX10_here_3 rfl dX10_here_12 ?_
    refine lv_aload_n S.1 S.2.1 dX10_here_15 rfl (lv_at hl 0 rfl) ?_
    refine g_get (a := a_t) S hK Wd iX10_here_X10 0 rfl rfl 10 rfl rfl kX10_here_1 rfl dX10_here_16 ?_
    obtain ⟨h2, hf⟩ := g_gi hF hf
    refine g_bald (a := a_t_text) S hK Wd 1 1 rfl rfl h2 dX10_here_19 ?_
    refine lv_sipush (v := 255) S.1 S.2.1 dX10_here_20 (by decide) ?_
    refine lv_iand S.1 S.2.1 dX10_here_23 ?_
    refine lv_goto (tgt := 28) S.1 S.2.1 dX10_here_24 rfl ?_
    exact g_iret S Wd hr hlk dX10_here_28 ((t_text t_at.toNatClampNeg) &&& (255 : Int32)) hf rfl rfl
def wX10_step (cI cB cZ cM cJ cK : ClassId) (a_t a_t_text a_t_corners a_t_streets a_t_ends a_t_time a_t_leaders a_t_home a_t_feet a_t_far a_t_now a_t_isKept a_t_tried a_t_row a_t_who a_t_then a_t_best a_t_seenAs a_t_seenAt a_t_plan : Nat) (t_trace : Int64) (t_typed t_at t_start t_sort t_value t_fault t_rowLong t_homes t_bestValue t_seen t_planMany : Int32) (t_text : Nat → Int32) : List va_W := [[(a_t, .inr (10, [.long t_trace, .ref a_t_text, .int t_typed, .ref a_t_corners, .ref a_t_streets, .ref a_t_ends, .ref a_t_time, .ref a_t_leaders, .ref a_t_home, .ref a_t_feet, .int t_at, .int t_start, .int t_sort, .int t_value, .int t_fault, .ref a_t_far, .ref a_t_now, .ref a_t_isKept, .ref a_t_tried, .ref a_t_row, .int t_rowLong, .ref a_t_who, .ref a_t_then, .int t_homes, .ref a_t_best, .int t_bestValue, .ref a_t_seenAs, .ref a_t_seenAt, .int t_seen, .ref a_t_plan, .int t_planMany]))], [(a_t_text, .inl (cB, 150, .inl t_text))]]
def rmX10_step : Room := { frames := 1, cells := 0, slots := 0, locals := 22 }
theorem kX10_step_1 : Cond.fieldLink RX10 83 "FeastMarchModel" "at" "I" ∈ wsX10_step := List.mem_of_getElem? (i := 1) rfl
theorem kX10_step_2 : Cond.fieldLink RX10 90 "FeastMarchModel" "start" "I" ∈ wsX10_step := List.mem_of_getElem? (i := 2) rfl
theorem kX10_step_3 : Cond.fieldLink RX10 93 "FeastMarchModel" "value" "I" ∈ wsX10_step := List.mem_of_getElem? (i := 3) rfl
theorem kX10_step_4 : Cond.fieldLink RX10 96 "FeastMarchModel" "sort" "I" ∈ wsX10_step := List.mem_of_getElem? (i := 4) rfl
theorem iX10_step_X10 : ∀ w ∈ wsX100, w ∈ wsX10_step := fun _ h => List.mem_cons_of_mem _ (List.mem_append_right _ h)
theorem n_X10_step : yX10_step.cls = RX10 ∧ yX10_step.cls ≠ "java/lang/invoke/MethodHandle" ∧ yX10_step.cls ≠ "java/lang/invoke/VarHandle" ∧ (parseMethodDescriptor yX10_step.desc).map (fun d => d.parameters.length) = some 0 := by decide +kernel
set_option maxHeartbeats 4000000 in
set_option maxRecDepth 100000 in
theorem c_X10_step (l : Launch) (D : va_G) (N : Nat) (cI cB cZ cM cJ cK : ClassId) (a_t a_t_text a_t_corners a_t_streets a_t_ends a_t_time a_t_leaders a_t_home a_t_feet a_t_far a_t_now a_t_isKept a_t_tried a_t_row a_t_who a_t_then a_t_best a_t_seenAs a_t_seenAt a_t_plan : Nat) (t_trace : Int64) (t_typed t_at t_start t_sort t_value t_fault t_rowLong t_homes t_bestValue t_seen t_planMany : Int32) (t_text : Nat → Int32) : gM l yX10_step wsX10_step rmX10_step D (gT cI cB cZ cM cJ cK) (wX10_step cI cB cZ cM cJ cK  a_t a_t_text a_t_corners a_t_streets a_t_ends a_t_time a_t_leaders a_t_home a_t_feet a_t_far a_t_now a_t_isKept a_t_tried a_t_row a_t_who a_t_then a_t_best a_t_seenAs a_t_seenAt a_t_plan t_trace t_typed t_at t_start t_sort t_value t_fault t_rowLong t_homes t_bestValue t_seen t_planMany t_text) [.ref a_t] (fX10_step N t_typed t_at t_start t_sort t_value t_text) (fun _u : Int32 × Int32 × Int32 × Int32 => none) (fun _u : Int32 × Int32 × Int32 × Int32 => (wX10_step cI cB cZ cM cJ cK  a_t a_t_text a_t_corners a_t_streets a_t_ends a_t_time a_t_leaders a_t_home a_t_feet a_t_far a_t_now a_t_isKept a_t_tried a_t_row a_t_who a_t_then a_t_best a_t_seenAs a_t_seenAt a_t_plan t_trace t_typed _u.1 _u.2.1 _u.2.2.1 _u.2.2.2 t_fault t_rowLong t_homes t_bestValue t_seen t_planMany t_text)) := by
  refine g_start (cc := cX10_step) (maxL := 2) (ret := none) (by decide) rfl (Nat.le_of_ble_eq_true rfl) ?_
  intro F hf hF p e s m below meth c A ls S hK hA Wd hr hlk hnm hl
  have b109 : ∀ (t_at t_start t_sort t_value y0 : Int32) (H1 : Heap) (locs1 : List Loc) (ls1 : Array Slot), gw D A s.heap (wX10_step cI cB cZ cM cJ cK  a_t a_t_text a_t_corners a_t_streets a_t_ends a_t_time a_t_leaders a_t_home a_t_feet a_t_far a_t_now a_t_isKept a_t_tried a_t_row a_t_who a_t_then a_t_best a_t_seenAs a_t_seenAt a_t_plan t_trace t_typed t_at t_start t_sort t_value t_fault t_rowLong t_homes t_bestValue t_seen t_planMany t_text) H1 locs1 → lv_has ls1 2 [] → F = fX10_step_b109 N t_typed t_text  t_at t_start t_sort t_value y0 → W p l e rmX10_step s m [.ref a_t].toArray below meth c H1 locs1 0 0 (MQ below (gQ F (fun _u : Int32 × Int32 × Int32 × Int32 => none) (fun _u : Int32 × Int32 × Int32 × Int32 => (wX10_step cI cB cZ cM cJ cK  a_t a_t_text a_t_corners a_t_streets a_t_ends a_t_time a_t_leaders a_t_home a_t_feet a_t_far a_t_now a_t_isKept a_t_tried a_t_row a_t_who a_t_then a_t_best a_t_seenAs a_t_seenAt a_t_plan t_trace t_typed _u.1 _u.2.1 _u.2.2.1 _u.2.2.2 t_fault t_rowLong t_homes t_bestValue t_seen t_planMany t_text)) D A) [.ref a_t].toArray s 0 0 A) (F0 m 109 ls1 [.int y0, .ref a_t]) := by
    intro  t_at t_start t_sort t_value y0 H locs ls Wd hl hf
    refine g_put (a := a_t) (ws' := (wX10_step cI cB cZ cM cJ cK  a_t a_t_text a_t_corners a_t_streets a_t_ends a_t_time a_t_leaders a_t_home a_t_feet a_t_far a_t_now a_t_isKept a_t_tried a_t_row a_t_who a_t_then a_t_best a_t_seenAs a_t_seenAt a_t_plan t_trace t_typed t_at t_start y0 t_value t_fault t_rowLong t_homes t_bestValue t_seen t_planMany t_text)) S hK Wd iX10_step_X10 tyX10 tyX10_ok nmX10 0 rfl rfl 12 rfl rfl kX10_step_4 rfl rfl rfl dX10_step_109 rfl (fun H locs Wd => ?_)
    refine lv_goto (tgt := 253) S.1 S.2.1 dX10_step_112 rfl ?_
    exact g_vret S Wd hr hlk dX10_step_253 (t_at, t_start, y0, t_value) hf rfl rfl
  have b63 : ∀ (n : Nat), ∀ (t_at t_start t_sort t_value x1 : Int32) (H1 : Heap) (locs1 : List Loc) (ls1 : Array Slot), gw D A s.heap (wX10_step cI cB cZ cM cJ cK  a_t a_t_text a_t_corners a_t_streets a_t_ends a_t_time a_t_leaders a_t_home a_t_feet a_t_far a_t_now a_t_isKept a_t_tried a_t_row a_t_who a_t_then a_t_best a_t_seenAs a_t_seenAt a_t_plan t_trace t_typed t_at t_start t_sort t_value t_fault t_rowLong t_homes t_bestValue t_seen t_planMany t_text) H1 locs1 → lv_has ls1 2 [(0, .ref a_t), (1, .int x1)] → F = fX10_step_b63 N t_typed t_text  n t_at t_start t_sort t_value x1 → W p l e rmX10_step s m [.ref a_t].toArray below meth c H1 locs1 0 0 (MQ below (gQ F (fun _u : Int32 × Int32 × Int32 × Int32 => none) (fun _u : Int32 × Int32 × Int32 × Int32 => (wX10_step cI cB cZ cM cJ cK  a_t a_t_text a_t_corners a_t_streets a_t_ends a_t_time a_t_leaders a_t_home a_t_feet a_t_far a_t_now a_t_isKept a_t_tried a_t_row a_t_who a_t_then a_t_best a_t_seenAs a_t_seenAt a_t_plan t_trace t_typed _u.1 _u.2.1 _u.2.2.1 _u.2.2.2 t_fault t_rowLong t_homes t_bestValue t_seen t_planMany t_text)) D A) [.ref a_t].toArray s 0 0 A) (F0 m 63 ls1 []) := by
    intro  n
    induction n with
    | zero => intro t_at t_start t_sort t_value x1 H locs ls Wd hl hf; exact absurd hf hF
    | succ n ih =>
      intro t_at t_start t_sort t_value x1 H locs ls Wd hl hf
      refine lv_aload_n S.1 S.2.1 dX10_step_63 rfl (lv_at hl 0 rfl) ?_
      obtain ⟨u10, hu10, hf⟩ := g_bind hF hf
      refine g_callV (ws' := (wX10_step cI cB cZ cM cJ cK  a_t a_t_text a_t_corners a_t_streets a_t_ends a_t_time a_t_leaders a_t_home a_t_feet a_t_far a_t_now a_t_isKept a_t_tried a_t_row a_t_who a_t_then a_t_best a_t_seenAs a_t_seenAt a_t_plan t_trace t_typed t_at t_start t_sort t_value t_fault t_rowLong t_homes t_bestValue t_seen t_planMany t_text)) (As := []) (rest := []) (st1 := [.int u10]) S hK hA Wd (c_X10_here l D N cI cB cZ cM cJ cK a_t a_t_text a_t_corners a_t_streets a_t_ends a_t_time a_t_leaders a_t_home a_t_feet a_t_far a_t_now a_t_isKept a_t_tried a_t_row a_t_who a_t_then a_t_best a_t_seenAs a_t_seenAt a_t_plan t_trace t_typed t_at t_start t_sort t_value t_fault t_rowLong t_homes t_bestValue t_seen t_planMany t_text) (cwV 0 S.2.2.2.2 gX10_step_X10_here rfl rfl rfl n_X10_here ⟨Nat.le_of_ble_eq_true rfl, Nat.le_of_ble_eq_true rfl⟩) hu10 [0, 1] rfl rfl 0 10 rfl rfl rfl rfl rfl rfl rfl hl.1 rfl (Nat.le_of_ble_eq_true rfl) dX10_step_64 ⟨Nat.zero_le _, Nat.zero_le _⟩ (fun H locs Wd => ?_)
      refine lv_bipush (v := 97) S.1 S.2.1 dX10_step_67 (by decide) ?_
      refine lv_bipush (v := 122) S.1 S.2.1 dX10_step_69 (by decide) ?_
      obtain ⟨u11, hu11, hf⟩ := g_bind hF hf
      refine g_callS (ws' := (wX10_step cI cB cZ cM cJ cK  a_t a_t_text a_t_corners a_t_streets a_t_ends a_t_time a_t_leaders a_t_home a_t_feet a_t_far a_t_now a_t_isKept a_t_tried a_t_row a_t_who a_t_then a_t_best a_t_seenAs a_t_seenAt a_t_plan t_trace t_typed t_at t_start t_sort t_value t_fault t_rowLong t_homes t_bestValue t_seen t_planMany t_text)) (As := [.int u10, .int (97 : Int32), .int (122 : Int32)]) (rest := []) (st1 := [.int u11]) S hK hA Wd (c_X10_in l D N cI cB cZ cM cJ cK u10 (97 : Int32) (122 : Int32)) (va_cwS 3 S.2.2.2.2 gX10_step_X10_in rfl rfl rfl n_X10_in ⟨Nat.le_of_ble_eq_true rfl, Nat.le_of_ble_eq_true rfl⟩) hu11 [] rfl rfl rfl rfl rfl rfl hl.1 rfl (Nat.le_of_ble_eq_true rfl) dX10_step_71 ⟨Nat.zero_le _, Nat.zero_le _⟩ (fun H locs Wd => ?_)
      refine lv_if_eq (tgt := 90) S.1 S.2.1 dX10_step_74 rfl (fun c12 => ?_) (fun c12 => ?_)
      · have hf := g_if hf c12
        refine lv_aload_n S.1 S.2.1 dX10_step_90 rfl (lv_at hl 0 rfl) ?_
        refine lv_aload_n S.1 S.2.1 dX10_step_91 rfl (lv_at hl 0 rfl) ?_
        refine g_get (a := a_t) S hK Wd iX10_step_X10 0 rfl rfl 10 rfl rfl kX10_step_1 rfl dX10_step_92 ?_
        refine lv_aload_n S.1 S.2.1 dX10_step_95 rfl (lv_at hl 0 rfl) ?_
        refine g_get (a := a_t) S hK Wd iX10_step_X10 0 rfl rfl 11 rfl rfl kX10_step_2 rfl dX10_step_96 ?_
        refine lv_isub S.1 S.2.1 dX10_step_99 ?_
        refine lv_iconst (v := 1) S.1 S.2.1 dX10_step_100 (by decide) ?_
        refine lv_icmp_ne (tgt := 108) S.1 S.2.1 dX10_step_101 rfl (fun c13 => ?_) (fun c13 => ?_)
        · have hf := g_ifn hf c13
          refine lv_iconst (v := 4) S.1 S.2.1 dX10_step_108 (by decide) ?_
          exact b109  t_at t_start t_sort t_value (4 : Int32) _ _ _ Wd (lv_sub hl [] rfl) hf
        · have hf := g_if hf c13
          refine lv_iload_n S.1 S.2.1 dX10_step_104 rfl (lv_at hl 1 rfl) ?_
          refine lv_goto (tgt := 109) S.1 S.2.1 dX10_step_105 rfl ?_
          exact b109  t_at t_start t_sort t_value x1 _ _ _ Wd (lv_sub hl [] rfl) hf
      · have hf := g_ifn hf c12
        refine lv_aload_n S.1 S.2.1 dX10_step_77 rfl (lv_at hl 0 rfl) ?_
        refine lv_dup S.1 S.2.1 dX10_step_78 rfl ?_
        refine g_get (a := a_t) S hK Wd iX10_step_X10 0 rfl rfl 10 rfl rfl kX10_step_1 rfl dX10_step_79 ?_
        refine lv_iconst (v := 1) S.1 S.2.1 dX10_step_82 (by decide) ?_
        refine lv_iadd S.1 S.2.1 dX10_step_83 ?_
        refine g_put (a := a_t) (ws' := (wX10_step cI cB cZ cM cJ cK  a_t a_t_text a_t_corners a_t_streets a_t_ends a_t_time a_t_leaders a_t_home a_t_feet a_t_far a_t_now a_t_isKept a_t_tried a_t_row a_t_who a_t_then a_t_best a_t_seenAs a_t_seenAt a_t_plan t_trace t_typed (t_at + (1 : Int32)) t_start t_sort t_value t_fault t_rowLong t_homes t_bestValue t_seen t_planMany t_text)) S hK Wd iX10_step_X10 tyX10 tyX10_ok nmX10 0 rfl rfl 10 rfl rfl kX10_step_1 rfl rfl rfl dX10_step_84 rfl (fun H locs Wd => ?_)
        refine lv_goto (tgt := 63) S.1 S.2.1 dX10_step_87 rfl ?_
        exact ih (t_at + (1 : Int32)) t_start t_sort t_value x1 _ _ _ Wd hl hf
  have b172 : ∀ (K126 : Int32 → Int32 → Int32 → Int32 → Int32 → Option (Int32 × Int32 × Int32 × Int32)) (hK126 : ∀ (t_at t_start t_sort t_value x1 : Int32) (H1 : Heap) (locs1 : List Loc) (ls1 : Array Slot), gw D A s.heap (wX10_step cI cB cZ cM cJ cK  a_t a_t_text a_t_corners a_t_streets a_t_ends a_t_time a_t_leaders a_t_home a_t_feet a_t_far a_t_now a_t_isKept a_t_tried a_t_row a_t_who a_t_then a_t_best a_t_seenAs a_t_seenAt a_t_plan t_trace t_typed t_at t_start t_sort t_value t_fault t_rowLong t_homes t_bestValue t_seen t_planMany t_text) H1 locs1 → lv_has ls1 2 [(0, .ref a_t), (1, .int x1)] → F = K126 t_at t_start t_sort t_value x1 → W p l e rmX10_step s m [.ref a_t].toArray below meth c H1 locs1 0 0 (MQ below (gQ F (fun _u : Int32 × Int32 × Int32 × Int32 => none) (fun _u : Int32 × Int32 × Int32 × Int32 => (wX10_step cI cB cZ cM cJ cK  a_t a_t_text a_t_corners a_t_streets a_t_ends a_t_time a_t_leaders a_t_home a_t_feet a_t_far a_t_now a_t_isKept a_t_tried a_t_row a_t_who a_t_then a_t_best a_t_seenAs a_t_seenAt a_t_plan t_trace t_typed _u.1 _u.2.1 _u.2.2.1 _u.2.2.2 t_fault t_rowLong t_homes t_bestValue t_seen t_planMany t_text)) D A) [.ref a_t].toArray s 0 0 A) (F0 m 126 ls1 [])) , ∀ (t_at t_start t_sort t_value x1 y0 : Int32) (H1 : Heap) (locs1 : List Loc) (ls1 : Array Slot), gw D A s.heap (wX10_step cI cB cZ cM cJ cK  a_t a_t_text a_t_corners a_t_streets a_t_ends a_t_time a_t_leaders a_t_home a_t_feet a_t_far a_t_now a_t_isKept a_t_tried a_t_row a_t_who a_t_then a_t_best a_t_seenAs a_t_seenAt a_t_plan t_trace t_typed t_at t_start t_sort t_value t_fault t_rowLong t_homes t_bestValue t_seen t_planMany t_text) H1 locs1 → lv_has ls1 2 [(0, .ref a_t), (1, .int x1)] → F = fX10_step_b172 N t_typed t_text K126 t_at t_start t_sort t_value x1 y0 → W p l e rmX10_step s m [.ref a_t].toArray below meth c H1 locs1 0 0 (MQ below (gQ F (fun _u : Int32 × Int32 × Int32 × Int32 => none) (fun _u : Int32 × Int32 × Int32 × Int32 => (wX10_step cI cB cZ cM cJ cK  a_t a_t_text a_t_corners a_t_streets a_t_ends a_t_time a_t_leaders a_t_home a_t_feet a_t_far a_t_now a_t_isKept a_t_tried a_t_row a_t_who a_t_then a_t_best a_t_seenAs a_t_seenAt a_t_plan t_trace t_typed _u.1 _u.2.1 _u.2.2.1 _u.2.2.2 t_fault t_rowLong t_homes t_bestValue t_seen t_planMany t_text)) D A) [.ref a_t].toArray s 0 0 A) (F0 m 172 ls1 [.int y0, .ref a_t]) := by
    intro K126 hK126 t_at t_start t_sort t_value x1 y0 H locs ls Wd hl hf
    refine g_put (a := a_t) (ws' := (wX10_step cI cB cZ cM cJ cK  a_t a_t_text a_t_corners a_t_streets a_t_ends a_t_time a_t_leaders a_t_home a_t_feet a_t_far a_t_now a_t_isKept a_t_tried a_t_row a_t_who a_t_then a_t_best a_t_seenAs a_t_seenAt a_t_plan t_trace t_typed t_at t_start t_sort y0 t_fault t_rowLong t_homes t_bestValue t_seen t_planMany t_text)) S hK Wd iX10_step_X10 tyX10 tyX10_ok nmX10 0 rfl rfl 13 rfl rfl kX10_step_3 rfl rfl rfl dX10_step_172 rfl (fun H locs Wd => ?_)
    refine lv_aload_n S.1 S.2.1 dX10_step_175 rfl (lv_at hl 0 rfl) ?_
    refine lv_dup S.1 S.2.1 dX10_step_176 rfl ?_
    refine g_get (a := a_t) S hK Wd iX10_step_X10 0 rfl rfl 10 rfl rfl kX10_step_1 rfl dX10_step_177 ?_
    refine lv_iconst (v := 1) S.1 S.2.1 dX10_step_180 (by decide) ?_
    refine lv_iadd S.1 S.2.1 dX10_step_181 ?_
    refine g_put (a := a_t) (ws' := (wX10_step cI cB cZ cM cJ cK  a_t a_t_text a_t_corners a_t_streets a_t_ends a_t_time a_t_leaders a_t_home a_t_feet a_t_far a_t_now a_t_isKept a_t_tried a_t_row a_t_who a_t_then a_t_best a_t_seenAs a_t_seenAt a_t_plan t_trace t_typed (t_at + (1 : Int32)) t_start t_sort y0 t_fault t_rowLong t_homes t_bestValue t_seen t_planMany t_text)) S hK Wd iX10_step_X10 tyX10 tyX10_ok nmX10 0 rfl rfl 10 rfl rfl kX10_step_1 rfl rfl rfl dX10_step_182 rfl (fun H locs Wd => ?_)
    refine lv_goto (tgt := 126) S.1 S.2.1 dX10_step_185 rfl ?_
    exact hK126 (t_at + (1 : Int32)) t_start t_sort y0 x1 _ _ _ Wd hl hf
  have b222 : ∀ (t_at t_start t_sort t_value y0 : Int32) (H1 : Heap) (locs1 : List Loc) (ls1 : Array Slot), gw D A s.heap (wX10_step cI cB cZ cM cJ cK  a_t a_t_text a_t_corners a_t_streets a_t_ends a_t_time a_t_leaders a_t_home a_t_feet a_t_far a_t_now a_t_isKept a_t_tried a_t_row a_t_who a_t_then a_t_best a_t_seenAs a_t_seenAt a_t_plan t_trace t_typed t_at t_start t_sort t_value t_fault t_rowLong t_homes t_bestValue t_seen t_planMany t_text) H1 locs1 → lv_has ls1 2 [] → F = fX10_step_b222 N t_typed t_text  t_at t_start t_sort t_value y0 → W p l e rmX10_step s m [.ref a_t].toArray below meth c H1 locs1 0 0 (MQ below (gQ F (fun _u : Int32 × Int32 × Int32 × Int32 => none) (fun _u : Int32 × Int32 × Int32 × Int32 => (wX10_step cI cB cZ cM cJ cK  a_t a_t_text a_t_corners a_t_streets a_t_ends a_t_time a_t_leaders a_t_home a_t_feet a_t_far a_t_now a_t_isKept a_t_tried a_t_row a_t_who a_t_then a_t_best a_t_seenAs a_t_seenAt a_t_plan t_trace t_typed _u.1 _u.2.1 _u.2.2.1 _u.2.2.2 t_fault t_rowLong t_homes t_bestValue t_seen t_planMany t_text)) D A) [.ref a_t].toArray s 0 0 A) (F0 m 222 ls1 [.int y0, .ref a_t]) := by
    intro  t_at t_start t_sort t_value y0 H locs ls Wd hl hf
    refine g_put (a := a_t) (ws' := (wX10_step cI cB cZ cM cJ cK  a_t a_t_text a_t_corners a_t_streets a_t_ends a_t_time a_t_leaders a_t_home a_t_feet a_t_far a_t_now a_t_isKept a_t_tried a_t_row a_t_who a_t_then a_t_best a_t_seenAs a_t_seenAt a_t_plan t_trace t_typed t_at t_start y0 t_value t_fault t_rowLong t_homes t_bestValue t_seen t_planMany t_text)) S hK Wd iX10_step_X10 tyX10 tyX10_ok nmX10 0 rfl rfl 12 rfl rfl kX10_step_4 rfl rfl rfl dX10_step_222 rfl (fun H locs Wd => ?_)
    refine lv_goto (tgt := 253) S.1 S.2.1 dX10_step_225 rfl ?_
    exact g_vret S Wd hr hlk dX10_step_253 (t_at, t_start, y0, t_value) hf rfl rfl
  have b217 : ∀ (t_at t_start t_sort t_value : Int32) (H1 : Heap) (locs1 : List Loc) (ls1 : Array Slot), gw D A s.heap (wX10_step cI cB cZ cM cJ cK  a_t a_t_text a_t_corners a_t_streets a_t_ends a_t_time a_t_leaders a_t_home a_t_feet a_t_far a_t_now a_t_isKept a_t_tried a_t_row a_t_who a_t_then a_t_best a_t_seenAs a_t_seenAt a_t_plan t_trace t_typed t_at t_start t_sort t_value t_fault t_rowLong t_homes t_bestValue t_seen t_planMany t_text) H1 locs1 → lv_has ls1 2 [] → F = fX10_step_b217 N t_typed t_text  t_at t_start t_sort t_value → W p l e rmX10_step s m [.ref a_t].toArray below meth c H1 locs1 0 0 (MQ below (gQ F (fun _u : Int32 × Int32 × Int32 × Int32 => none) (fun _u : Int32 × Int32 × Int32 × Int32 => (wX10_step cI cB cZ cM cJ cK  a_t a_t_text a_t_corners a_t_streets a_t_ends a_t_time a_t_leaders a_t_home a_t_feet a_t_far a_t_now a_t_isKept a_t_tried a_t_row a_t_who a_t_then a_t_best a_t_seenAs a_t_seenAt a_t_plan t_trace t_typed _u.1 _u.2.1 _u.2.2.1 _u.2.2.2 t_fault t_rowLong t_homes t_bestValue t_seen t_planMany t_text)) D A) [.ref a_t].toArray s 0 0 A) (F0 m 217 ls1 [.ref a_t]) := by
    intro  t_at t_start t_sort t_value H locs ls Wd hl hf
    refine lv_iconst (v := 4) S.1 S.2.1 dX10_step_217 (by decide) ?_
    refine lv_goto (tgt := 222) S.1 S.2.1 dX10_step_218 rfl ?_
    exact b222  t_at t_start t_sort t_value (4 : Int32) _ _ _ Wd hl hf
  have b221 : ∀ (t_at t_start t_sort t_value : Int32) (H1 : Heap) (locs1 : List Loc) (ls1 : Array Slot), gw D A s.heap (wX10_step cI cB cZ cM cJ cK  a_t a_t_text a_t_corners a_t_streets a_t_ends a_t_time a_t_leaders a_t_home a_t_feet a_t_far a_t_now a_t_isKept a_t_tried a_t_row a_t_who a_t_then a_t_best a_t_seenAs a_t_seenAt a_t_plan t_trace t_typed t_at t_start t_sort t_value t_fault t_rowLong t_homes t_bestValue t_seen t_planMany t_text) H1 locs1 → lv_has ls1 2 [] → F = fX10_step_b221 N t_typed t_text  t_at t_start t_sort t_value → W p l e rmX10_step s m [.ref a_t].toArray below meth c H1 locs1 0 0 (MQ below (gQ F (fun _u : Int32 × Int32 × Int32 × Int32 => none) (fun _u : Int32 × Int32 × Int32 × Int32 => (wX10_step cI cB cZ cM cJ cK  a_t a_t_text a_t_corners a_t_streets a_t_ends a_t_time a_t_leaders a_t_home a_t_feet a_t_far a_t_now a_t_isKept a_t_tried a_t_row a_t_who a_t_then a_t_best a_t_seenAs a_t_seenAt a_t_plan t_trace t_typed _u.1 _u.2.1 _u.2.2.1 _u.2.2.2 t_fault t_rowLong t_homes t_bestValue t_seen t_planMany t_text)) D A) [.ref a_t].toArray s 0 0 A) (F0 m 221 ls1 [.ref a_t]) := by
    intro  t_at t_start t_sort t_value H locs ls Wd hl hf
    refine lv_iconst (v := 1) S.1 S.2.1 dX10_step_221 (by decide) ?_
    exact b222  t_at t_start t_sort t_value (1 : Int32) _ _ _ Wd hl hf
  have b126 : ∀ (n : Nat), ∀ (t_at t_start t_sort t_value x1 : Int32) (H1 : Heap) (locs1 : List Loc) (ls1 : Array Slot), gw D A s.heap (wX10_step cI cB cZ cM cJ cK  a_t a_t_text a_t_corners a_t_streets a_t_ends a_t_time a_t_leaders a_t_home a_t_feet a_t_far a_t_now a_t_isKept a_t_tried a_t_row a_t_who a_t_then a_t_best a_t_seenAs a_t_seenAt a_t_plan t_trace t_typed t_at t_start t_sort t_value t_fault t_rowLong t_homes t_bestValue t_seen t_planMany t_text) H1 locs1 → lv_has ls1 2 [(0, .ref a_t), (1, .int x1)] → F = fX10_step_b126 N t_typed t_text  n t_at t_start t_sort t_value x1 → W p l e rmX10_step s m [.ref a_t].toArray below meth c H1 locs1 0 0 (MQ below (gQ F (fun _u : Int32 × Int32 × Int32 × Int32 => none) (fun _u : Int32 × Int32 × Int32 × Int32 => (wX10_step cI cB cZ cM cJ cK  a_t a_t_text a_t_corners a_t_streets a_t_ends a_t_time a_t_leaders a_t_home a_t_feet a_t_far a_t_now a_t_isKept a_t_tried a_t_row a_t_who a_t_then a_t_best a_t_seenAs a_t_seenAt a_t_plan t_trace t_typed _u.1 _u.2.1 _u.2.2.1 _u.2.2.2 t_fault t_rowLong t_homes t_bestValue t_seen t_planMany t_text)) D A) [.ref a_t].toArray s 0 0 A) (F0 m 126 ls1 []) := by
    intro  n
    induction n with
    | zero => intro t_at t_start t_sort t_value x1 H locs ls Wd hl hf; exact absurd hf hF
    | succ n ih =>
      intro t_at t_start t_sort t_value x1 H locs ls Wd hl hf
      refine lv_aload_n S.1 S.2.1 dX10_step_126 rfl (lv_at hl 0 rfl) ?_
      obtain ⟨u14, hu14, hf⟩ := g_bind hF hf
      refine g_callV (ws' := (wX10_step cI cB cZ cM cJ cK  a_t a_t_text a_t_corners a_t_streets a_t_ends a_t_time a_t_leaders a_t_home a_t_feet a_t_far a_t_now a_t_isKept a_t_tried a_t_row a_t_who a_t_then a_t_best a_t_seenAs a_t_seenAt a_t_plan t_trace t_typed t_at t_start t_sort t_value t_fault t_rowLong t_homes t_bestValue t_seen t_planMany t_text)) (As := []) (rest := []) (st1 := [.int u14]) S hK hA Wd (c_X10_here l D N cI cB cZ cM cJ cK a_t a_t_text a_t_corners a_t_streets a_t_ends a_t_time a_t_leaders a_t_home a_t_feet a_t_far a_t_now a_t_isKept a_t_tried a_t_row a_t_who a_t_then a_t_best a_t_seenAs a_t_seenAt a_t_plan t_trace t_typed t_at t_start t_sort t_value t_fault t_rowLong t_homes t_bestValue t_seen t_planMany t_text) (cwV 0 S.2.2.2.2 gX10_step_X10_here rfl rfl rfl n_X10_here ⟨Nat.le_of_ble_eq_true rfl, Nat.le_of_ble_eq_true rfl⟩) hu14 [0, 1] rfl rfl 0 10 rfl rfl rfl rfl rfl rfl rfl hl.1 rfl (Nat.le_of_ble_eq_true rfl) dX10_step_127 ⟨Nat.zero_le _, Nat.zero_le _⟩ (fun H locs Wd => ?_)
      refine lv_bipush (v := 48) S.1 S.2.1 dX10_step_130 (by decide) ?_
      refine lv_bipush (v := 57) S.1 S.2.1 dX10_step_132 (by decide) ?_
      obtain ⟨u15, hu15, hf⟩ := g_bind hF hf
      refine g_callS (ws' := (wX10_step cI cB cZ cM cJ cK  a_t a_t_text a_t_corners a_t_streets a_t_ends a_t_time a_t_leaders a_t_home a_t_feet a_t_far a_t_now a_t_isKept a_t_tried a_t_row a_t_who a_t_then a_t_best a_t_seenAs a_t_seenAt a_t_plan t_trace t_typed t_at t_start t_sort t_value t_fault t_rowLong t_homes t_bestValue t_seen t_planMany t_text)) (As := [.int u14, .int (48 : Int32), .int (57 : Int32)]) (rest := []) (st1 := [.int u15]) S hK hA Wd (c_X10_in l D N cI cB cZ cM cJ cK u14 (48 : Int32) (57 : Int32)) (va_cwS 3 S.2.2.2.2 gX10_step_X10_in rfl rfl rfl n_X10_in ⟨Nat.le_of_ble_eq_true rfl, Nat.le_of_ble_eq_true rfl⟩) hu15 [] rfl rfl rfl rfl rfl rfl hl.1 rfl (Nat.le_of_ble_eq_true rfl) dX10_step_134 ⟨Nat.zero_le _, Nat.zero_le _⟩ (fun H locs Wd => ?_)
      refine lv_if_eq (tgt := 188) S.1 S.2.1 dX10_step_137 rfl (fun c16 => ?_) (fun c16 => ?_)
      · have hf := g_if hf c16
        refine lv_aload_n S.1 S.2.1 dX10_step_188 rfl (lv_at hl 0 rfl) ?_
        refine lv_aload_n S.1 S.2.1 dX10_step_189 rfl (lv_at hl 0 rfl) ?_
        refine g_get (a := a_t) S hK Wd iX10_step_X10 0 rfl rfl 13 rfl rfl kX10_step_3 rfl dX10_step_190 ?_
        refine lv_bipush (v := 99) S.1 S.2.1 dX10_step_193 (by decide) ?_
        refine lv_icmp_gt (tgt := 217) S.1 S.2.1 dX10_step_195 rfl (fun c17 => ?_) (fun c17 => ?_)
        · have hf := g_if hf c17
          exact b217  t_at t_start t_sort t_value _ _ _ Wd (lv_sub hl [] rfl) hf
        · have hf := g_ifn hf c17
          refine lv_iload_n S.1 S.2.1 dX10_step_198 rfl (lv_at hl 1 rfl) ?_
          refine lv_bipush (v := 48) S.1 S.2.1 dX10_step_199 (by decide) ?_
          refine lv_icmp_ne (tgt := 221) S.1 S.2.1 dX10_step_201 rfl (fun c18 => ?_) (fun c18 => ?_)
          · have hf := g_ifn hf c18
            exact b221  t_at t_start t_sort t_value _ _ _ Wd (lv_sub hl [] rfl) hf
          · have hf := g_if hf c18
            refine lv_aload_n S.1 S.2.1 dX10_step_204 rfl (lv_at hl 0 rfl) ?_
            refine g_get (a := a_t) S hK Wd iX10_step_X10 0 rfl rfl 10 rfl rfl kX10_step_1 rfl dX10_step_205 ?_
            refine lv_aload_n S.1 S.2.1 dX10_step_208 rfl (lv_at hl 0 rfl) ?_
            refine g_get (a := a_t) S hK Wd iX10_step_X10 0 rfl rfl 11 rfl rfl kX10_step_2 rfl dX10_step_209 ?_
            refine lv_isub S.1 S.2.1 dX10_step_212 ?_
            refine lv_iconst (v := 1) S.1 S.2.1 dX10_step_213 (by decide) ?_
            refine lv_icmp_le (tgt := 221) S.1 S.2.1 dX10_step_214 rfl (fun c19 => ?_) (fun c19 => ?_)
            · have hf := g_if hf c19
              exact b221  t_at t_start t_sort t_value _ _ _ Wd (lv_sub hl [] rfl) hf
            · have hf := g_ifn hf c19
              exact b217  t_at t_start t_sort t_value _ _ _ Wd (lv_sub hl [] rfl) hf
      · have hf := g_ifn hf c16
        refine lv_aload_n S.1 S.2.1 dX10_step_140 rfl (lv_at hl 0 rfl) ?_
        refine lv_aload_n S.1 S.2.1 dX10_step_141 rfl (lv_at hl 0 rfl) ?_
        refine g_get (a := a_t) S hK Wd iX10_step_X10 0 rfl rfl 13 rfl rfl kX10_step_3 rfl dX10_step_142 ?_
        refine lv_bipush (v := 99) S.1 S.2.1 dX10_step_145 (by decide) ?_
        refine lv_icmp_le (tgt := 157) S.1 S.2.1 dX10_step_147 rfl (fun c20 => ?_) (fun c20 => ?_)
        · have hf := g_if hf c20
          refine lv_bipush (v := 10) S.1 S.2.1 dX10_step_157 (by decide) ?_
          refine lv_aload_n S.1 S.2.1 dX10_step_159 rfl (lv_at hl 0 rfl) ?_
          refine g_get (a := a_t) S hK Wd iX10_step_X10 0 rfl rfl 13 rfl rfl kX10_step_3 rfl dX10_step_160 ?_
          refine lv_imul S.1 S.2.1 dX10_step_163 ?_
          refine lv_aload_n S.1 S.2.1 dX10_step_164 rfl (lv_at hl 0 rfl) ?_
          obtain ⟨u21, hu21, hf⟩ := g_bind hF hf
          refine g_callV (ws' := (wX10_step cI cB cZ cM cJ cK  a_t a_t_text a_t_corners a_t_streets a_t_ends a_t_time a_t_leaders a_t_home a_t_feet a_t_far a_t_now a_t_isKept a_t_tried a_t_row a_t_who a_t_then a_t_best a_t_seenAs a_t_seenAt a_t_plan t_trace t_typed t_at t_start t_sort t_value t_fault t_rowLong t_homes t_bestValue t_seen t_planMany t_text)) (As := []) (rest := [.int ((10 : Int32) * t_value), .ref a_t]) (st1 := [.int u21, .int ((10 : Int32) * t_value), .ref a_t]) S hK hA Wd (c_X10_here l D N cI cB cZ cM cJ cK a_t a_t_text a_t_corners a_t_streets a_t_ends a_t_time a_t_leaders a_t_home a_t_feet a_t_far a_t_now a_t_isKept a_t_tried a_t_row a_t_who a_t_then a_t_best a_t_seenAs a_t_seenAt a_t_plan t_trace t_typed t_at t_start t_sort t_value t_fault t_rowLong t_homes t_bestValue t_seen t_planMany t_text) (cwV 0 S.2.2.2.2 gX10_step_X10_here rfl rfl rfl n_X10_here ⟨Nat.le_of_ble_eq_true rfl, Nat.le_of_ble_eq_true rfl⟩) hu21 [0, 1] rfl rfl 0 10 rfl rfl rfl rfl rfl rfl rfl hl.1 rfl (Nat.le_of_ble_eq_true rfl) dX10_step_165 ⟨Nat.zero_le _, Nat.zero_le _⟩ (fun H locs Wd => ?_)
          refine lv_iadd S.1 S.2.1 dX10_step_168 ?_
          refine lv_bipush (v := 48) S.1 S.2.1 dX10_step_169 (by decide) ?_
          refine lv_isub S.1 S.2.1 dX10_step_171 ?_
          exact b172 (fun t_at t_start t_sort t_value x1 => fX10_step_b126 N t_typed t_text n t_at t_start t_sort t_value x1) ih t_at t_start t_sort t_value x1 ((((10 : Int32) * t_value) + u21) - (48 : Int32)) _ _ _ Wd hl hf
        · have hf := g_ifn hf c20
          refine lv_aload_n S.1 S.2.1 dX10_step_150 rfl (lv_at hl 0 rfl) ?_
          refine g_get (a := a_t) S hK Wd iX10_step_X10 0 rfl rfl 13 rfl rfl kX10_step_3 rfl dX10_step_151 ?_
          refine lv_goto (tgt := 172) S.1 S.2.1 dX10_step_154 rfl ?_
          exact b172 (fun t_at t_start t_sort t_value x1 => fX10_step_b126 N t_typed t_text n t_at t_start t_sort t_value x1) ih t_at t_start t_sort t_value x1 t_value _ _ _ Wd hl hf
  have b250 : ∀ (t_at t_start t_sort t_value y0 : Int32) (H1 : Heap) (locs1 : List Loc) (ls1 : Array Slot), gw D A s.heap (wX10_step cI cB cZ cM cJ cK  a_t a_t_text a_t_corners a_t_streets a_t_ends a_t_time a_t_leaders a_t_home a_t_feet a_t_far a_t_now a_t_isKept a_t_tried a_t_row a_t_who a_t_then a_t_best a_t_seenAs a_t_seenAt a_t_plan t_trace t_typed t_at t_start t_sort t_value t_fault t_rowLong t_homes t_bestValue t_seen t_planMany t_text) H1 locs1 → lv_has ls1 2 [] → F = fX10_step_b250 N t_typed t_text  t_at t_start t_sort t_value y0 → W p l e rmX10_step s m [.ref a_t].toArray below meth c H1 locs1 0 0 (MQ below (gQ F (fun _u : Int32 × Int32 × Int32 × Int32 => none) (fun _u : Int32 × Int32 × Int32 × Int32 => (wX10_step cI cB cZ cM cJ cK  a_t a_t_text a_t_corners a_t_streets a_t_ends a_t_time a_t_leaders a_t_home a_t_feet a_t_far a_t_now a_t_isKept a_t_tried a_t_row a_t_who a_t_then a_t_best a_t_seenAs a_t_seenAt a_t_plan t_trace t_typed _u.1 _u.2.1 _u.2.2.1 _u.2.2.2 t_fault t_rowLong t_homes t_bestValue t_seen t_planMany t_text)) D A) [.ref a_t].toArray s 0 0 A) (F0 m 250 ls1 [.int y0, .ref a_t]) := by
    intro  t_at t_start t_sort t_value y0 H locs ls Wd hl hf
    refine g_put (a := a_t) (ws' := (wX10_step cI cB cZ cM cJ cK  a_t a_t_text a_t_corners a_t_streets a_t_ends a_t_time a_t_leaders a_t_home a_t_feet a_t_far a_t_now a_t_isKept a_t_tried a_t_row a_t_who a_t_then a_t_best a_t_seenAs a_t_seenAt a_t_plan t_trace t_typed t_at t_start y0 t_value t_fault t_rowLong t_homes t_bestValue t_seen t_planMany t_text)) S hK Wd iX10_step_X10 tyX10 tyX10_ok nmX10 0 rfl rfl 12 rfl rfl kX10_step_4 rfl rfl rfl dX10_step_250 rfl (fun H locs Wd => ?_)
    exact g_vret S Wd hr hlk dX10_step_253 (t_at, t_start, y0, t_value) hf rfl rfl
  have b0 : ∀ (n : Nat), ∀ (t_at t_start t_sort t_value : Int32) (H1 : Heap) (locs1 : List Loc) (ls1 : Array Slot), gw D A s.heap (wX10_step cI cB cZ cM cJ cK  a_t a_t_text a_t_corners a_t_streets a_t_ends a_t_time a_t_leaders a_t_home a_t_feet a_t_far a_t_now a_t_isKept a_t_tried a_t_row a_t_who a_t_then a_t_best a_t_seenAs a_t_seenAt a_t_plan t_trace t_typed t_at t_start t_sort t_value t_fault t_rowLong t_homes t_bestValue t_seen t_planMany t_text) H1 locs1 → lv_has ls1 2 [(0, .ref a_t)] → F = fX10_step_b0 N t_typed t_text  n t_at t_start t_sort t_value → W p l e rmX10_step s m [.ref a_t].toArray below meth c H1 locs1 0 0 (MQ below (gQ F (fun _u : Int32 × Int32 × Int32 × Int32 => none) (fun _u : Int32 × Int32 × Int32 × Int32 => (wX10_step cI cB cZ cM cJ cK  a_t a_t_text a_t_corners a_t_streets a_t_ends a_t_time a_t_leaders a_t_home a_t_feet a_t_far a_t_now a_t_isKept a_t_tried a_t_row a_t_who a_t_then a_t_best a_t_seenAs a_t_seenAt a_t_plan t_trace t_typed _u.1 _u.2.1 _u.2.2.1 _u.2.2.2 t_fault t_rowLong t_homes t_bestValue t_seen t_planMany t_text)) D A) [.ref a_t].toArray s 0 0 A) (F0 m 0 ls1 []) := by
    intro  n
    induction n with
    | zero => intro t_at t_start t_sort t_value H locs ls Wd hl hf; exact absurd hf hF
    | succ n ih =>
      intro t_at t_start t_sort t_value H locs ls Wd hl hf
      refine lv_aload_n S.1 S.2.1 dX10_step_0 rfl (lv_at hl 0 rfl) ?_
      obtain ⟨u1, hu1, hf⟩ := g_bind hF hf
      refine g_callV (ws' := (wX10_step cI cB cZ cM cJ cK  a_t a_t_text a_t_corners a_t_streets a_t_ends a_t_time a_t_leaders a_t_home a_t_feet a_t_far a_t_now a_t_isKept a_t_tried a_t_row a_t_who a_t_then a_t_best a_t_seenAs a_t_seenAt a_t_plan t_trace t_typed t_at t_start t_sort t_value t_fault t_rowLong t_homes t_bestValue t_seen t_planMany t_text)) (As := []) (rest := []) (st1 := [.int u1]) S hK hA Wd (c_X10_here l D N cI cB cZ cM cJ cK a_t a_t_text a_t_corners a_t_streets a_t_ends a_t_time a_t_leaders a_t_home a_t_feet a_t_far a_t_now a_t_isKept a_t_tried a_t_row a_t_who a_t_then a_t_best a_t_seenAs a_t_seenAt a_t_plan t_trace t_typed t_at t_start t_sort t_value t_fault t_rowLong t_homes t_bestValue t_seen t_planMany t_text) (cwV 0 S.2.2.2.2 gX10_step_X10_here rfl rfl rfl n_X10_here ⟨Nat.le_of_ble_eq_true rfl, Nat.le_of_ble_eq_true rfl⟩) hu1 [0, 1] rfl rfl 0 10 rfl rfl rfl rfl rfl rfl rfl hl.1 rfl (Nat.le_of_ble_eq_true rfl) dX10_step_1 ⟨Nat.zero_le _, Nat.zero_le _⟩ (fun H locs Wd => ?_)
      refine lv_bipush (v := 32) S.1 S.2.1 dX10_step_4 (by decide) ?_
      refine lv_icmp_ne (tgt := 22) S.1 S.2.1 dX10_step_6 rfl (fun c2 => ?_) (fun c2 => ?_)
      · have hf := g_ifn hf c2
        refine lv_aload_n S.1 S.2.1 dX10_step_22 rfl (lv_at hl 0 rfl) ?_
        refine lv_aload_n S.1 S.2.1 dX10_step_23 rfl (lv_at hl 0 rfl) ?_
        refine g_get (a := a_t) S hK Wd iX10_step_X10 0 rfl rfl 10 rfl rfl kX10_step_1 rfl dX10_step_24 ?_
        refine g_put (a := a_t) (ws' := (wX10_step cI cB cZ cM cJ cK  a_t a_t_text a_t_corners a_t_streets a_t_ends a_t_time a_t_leaders a_t_home a_t_feet a_t_far a_t_now a_t_isKept a_t_tried a_t_row a_t_who a_t_then a_t_best a_t_seenAs a_t_seenAt a_t_plan t_trace t_typed t_at t_at t_sort t_value t_fault t_rowLong t_homes t_bestValue t_seen t_planMany t_text)) S hK Wd iX10_step_X10 tyX10 tyX10_ok nmX10 0 rfl rfl 11 rfl rfl kX10_step_2 rfl rfl rfl dX10_step_27 rfl (fun H locs Wd => ?_)
        refine lv_aload_n S.1 S.2.1 dX10_step_30 rfl (lv_at hl 0 rfl) ?_
        refine lv_iconst (v := 0) S.1 S.2.1 dX10_step_31 (by decide) ?_
        refine g_put (a := a_t) (ws' := (wX10_step cI cB cZ cM cJ cK  a_t a_t_text a_t_corners a_t_streets a_t_ends a_t_time a_t_leaders a_t_home a_t_feet a_t_far a_t_now a_t_isKept a_t_tried a_t_row a_t_who a_t_then a_t_best a_t_seenAs a_t_seenAt a_t_plan t_trace t_typed t_at t_at t_sort (0 : Int32) t_fault t_rowLong t_homes t_bestValue t_seen t_planMany t_text)) S hK Wd iX10_step_X10 tyX10 tyX10_ok nmX10 0 rfl rfl 13 rfl rfl kX10_step_3 rfl rfl rfl dX10_step_32 rfl (fun H locs Wd => ?_)
        refine lv_aload_n S.1 S.2.1 dX10_step_35 rfl (lv_at hl 0 rfl) ?_
        obtain ⟨u3, hu3, hf⟩ := g_bind hF hf
        refine g_callV (ws' := (wX10_step cI cB cZ cM cJ cK  a_t a_t_text a_t_corners a_t_streets a_t_ends a_t_time a_t_leaders a_t_home a_t_feet a_t_far a_t_now a_t_isKept a_t_tried a_t_row a_t_who a_t_then a_t_best a_t_seenAs a_t_seenAt a_t_plan t_trace t_typed t_at t_at t_sort (0 : Int32) t_fault t_rowLong t_homes t_bestValue t_seen t_planMany t_text)) (As := []) (rest := []) (st1 := [.int u3]) S hK hA Wd (c_X10_here l D N cI cB cZ cM cJ cK a_t a_t_text a_t_corners a_t_streets a_t_ends a_t_time a_t_leaders a_t_home a_t_feet a_t_far a_t_now a_t_isKept a_t_tried a_t_row a_t_who a_t_then a_t_best a_t_seenAs a_t_seenAt a_t_plan t_trace t_typed t_at t_at t_sort (0 : Int32) t_fault t_rowLong t_homes t_bestValue t_seen t_planMany t_text) (cwV 0 S.2.2.2.2 gX10_step_X10_here rfl rfl rfl n_X10_here ⟨Nat.le_of_ble_eq_true rfl, Nat.le_of_ble_eq_true rfl⟩) hu3 [0, 1] rfl rfl 0 10 rfl rfl rfl rfl rfl rfl rfl hl.1 rfl (Nat.le_of_ble_eq_true rfl) dX10_step_36 ⟨Nat.zero_le _, Nat.zero_le _⟩ (fun H locs Wd => ?_)
        refine lv_istore_n (lv' := [(1, .int u3), (0, .ref a_t)]) S.1 S.2.1 dX10_step_39 rfl hl (by decide) rfl (fun ls hl => ?_)
        refine lv_iload_n S.1 S.2.1 dX10_step_40 rfl (lv_at hl 0 rfl) ?_
        refine lv_if_ge (tgt := 52) S.1 S.2.1 dX10_step_41 rfl (fun c4 => ?_) (fun c4 => ?_)
        · have hf := g_if hf c4
          refine lv_iload_n S.1 S.2.1 dX10_step_52 rfl (lv_at hl 0 rfl) ?_
          refine lv_bipush (v := 97) S.1 S.2.1 dX10_step_53 (by decide) ?_
          refine lv_bipush (v := 122) S.1 S.2.1 dX10_step_55 (by decide) ?_
          obtain ⟨u5, hu5, hf⟩ := g_bind hF hf
          refine g_callS (ws' := (wX10_step cI cB cZ cM cJ cK  a_t a_t_text a_t_corners a_t_streets a_t_ends a_t_time a_t_leaders a_t_home a_t_feet a_t_far a_t_now a_t_isKept a_t_tried a_t_row a_t_who a_t_then a_t_best a_t_seenAs a_t_seenAt a_t_plan t_trace t_typed t_at t_at t_sort (0 : Int32) t_fault t_rowLong t_homes t_bestValue t_seen t_planMany t_text)) (As := [.int u3, .int (97 : Int32), .int (122 : Int32)]) (rest := []) (st1 := [.int u5]) S hK hA Wd (c_X10_in l D N cI cB cZ cM cJ cK u3 (97 : Int32) (122 : Int32)) (va_cwS 3 S.2.2.2.2 gX10_step_X10_in rfl rfl rfl n_X10_in ⟨Nat.le_of_ble_eq_true rfl, Nat.le_of_ble_eq_true rfl⟩) hu5 [] rfl rfl rfl rfl rfl rfl hl.1 rfl (Nat.le_of_ble_eq_true rfl) dX10_step_57 ⟨Nat.zero_le _, Nat.zero_le _⟩ (fun H locs Wd => ?_)
          refine lv_if_eq (tgt := 115) S.1 S.2.1 dX10_step_60 rfl (fun c6 => ?_) (fun c6 => ?_)
          · have hf := g_if hf c6
            refine lv_iload_n S.1 S.2.1 dX10_step_115 rfl (lv_at hl 0 rfl) ?_
            refine lv_bipush (v := 48) S.1 S.2.1 dX10_step_116 (by decide) ?_
            refine lv_bipush (v := 57) S.1 S.2.1 dX10_step_118 (by decide) ?_
            obtain ⟨u7, hu7, hf⟩ := g_bind hF hf
            refine g_callS (ws' := (wX10_step cI cB cZ cM cJ cK  a_t a_t_text a_t_corners a_t_streets a_t_ends a_t_time a_t_leaders a_t_home a_t_feet a_t_far a_t_now a_t_isKept a_t_tried a_t_row a_t_who a_t_then a_t_best a_t_seenAs a_t_seenAt a_t_plan t_trace t_typed t_at t_at t_sort (0 : Int32) t_fault t_rowLong t_homes t_bestValue t_seen t_planMany t_text)) (As := [.int u3, .int (48 : Int32), .int (57 : Int32)]) (rest := []) (st1 := [.int u7]) S hK hA Wd (c_X10_in l D N cI cB cZ cM cJ cK u3 (48 : Int32) (57 : Int32)) (va_cwS 3 S.2.2.2.2 gX10_step_X10_in rfl rfl rfl n_X10_in ⟨Nat.le_of_ble_eq_true rfl, Nat.le_of_ble_eq_true rfl⟩) hu7 [] rfl rfl rfl rfl rfl rfl hl.1 rfl (Nat.le_of_ble_eq_true rfl) dX10_step_120 ⟨Nat.zero_le _, Nat.zero_le _⟩ (fun H locs Wd => ?_)
            refine lv_if_eq (tgt := 228) S.1 S.2.1 dX10_step_123 rfl (fun c8 => ?_) (fun c8 => ?_)
            · have hf := g_if hf c8
              refine lv_aload_n S.1 S.2.1 dX10_step_228 rfl (lv_at hl 1 rfl) ?_
              refine lv_dup S.1 S.2.1 dX10_step_229 rfl ?_
              refine g_get (a := a_t) S hK Wd iX10_step_X10 0 rfl rfl 10 rfl rfl kX10_step_1 rfl dX10_step_230 ?_
              refine lv_iconst (v := 1) S.1 S.2.1 dX10_step_233 (by decide) ?_
              refine lv_iadd S.1 S.2.1 dX10_step_234 ?_
              refine g_put (a := a_t) (ws' := (wX10_step cI cB cZ cM cJ cK  a_t a_t_text a_t_corners a_t_streets a_t_ends a_t_time a_t_leaders a_t_home a_t_feet a_t_far a_t_now a_t_isKept a_t_tried a_t_row a_t_who a_t_then a_t_best a_t_seenAs a_t_seenAt a_t_plan t_trace t_typed (t_at + (1 : Int32)) t_at t_sort (0 : Int32) t_fault t_rowLong t_homes t_bestValue t_seen t_planMany t_text)) S hK Wd iX10_step_X10 tyX10 tyX10_ok nmX10 0 rfl rfl 10 rfl rfl kX10_step_1 rfl rfl rfl dX10_step_235 rfl (fun H locs Wd => ?_)
              refine lv_aload_n S.1 S.2.1 dX10_step_238 rfl (lv_at hl 1 rfl) ?_
              refine lv_iload_n S.1 S.2.1 dX10_step_239 rfl (lv_at hl 0 rfl) ?_
              refine lv_bipush (v := 59) S.1 S.2.1 dX10_step_240 (by decide) ?_
              refine lv_icmp_ne (tgt := 249) S.1 S.2.1 dX10_step_242 rfl (fun c9 => ?_) (fun c9 => ?_)
              · have hf := g_ifn hf c9
                refine lv_iconst (v := 4) S.1 S.2.1 dX10_step_249 (by decide) ?_
                exact b250  (t_at + (1 : Int32)) t_at t_sort (0 : Int32) (4 : Int32) _ _ _ Wd (lv_sub hl [] rfl) hf
              · have hf := g_if hf c9
                refine lv_iconst (v := 2) S.1 S.2.1 dX10_step_245 (by decide) ?_
                refine lv_goto (tgt := 250) S.1 S.2.1 dX10_step_246 rfl ?_
                exact b250  (t_at + (1 : Int32)) t_at t_sort (0 : Int32) (2 : Int32) _ _ _ Wd (lv_sub hl [] rfl) hf
            · have hf := g_ifn hf c8
              exact b126  N t_at t_at t_sort (0 : Int32) u3 _ _ _ Wd (lv_sub hl [1, 0] rfl) hf
          · have hf := g_ifn hf c6
            exact b63  N t_at t_at t_sort (0 : Int32) u3 _ _ _ Wd (lv_sub hl [1, 0] rfl) hf
        · have hf := g_ifn hf c4
          refine lv_aload_n S.1 S.2.1 dX10_step_44 rfl (lv_at hl 1 rfl) ?_
          refine lv_iconst (v := 3) S.1 S.2.1 dX10_step_45 (by decide) ?_
          refine g_put (a := a_t) (ws' := (wX10_step cI cB cZ cM cJ cK  a_t a_t_text a_t_corners a_t_streets a_t_ends a_t_time a_t_leaders a_t_home a_t_feet a_t_far a_t_now a_t_isKept a_t_tried a_t_row a_t_who a_t_then a_t_best a_t_seenAs a_t_seenAt a_t_plan t_trace t_typed t_at t_at (3 : Int32) (0 : Int32) t_fault t_rowLong t_homes t_bestValue t_seen t_planMany t_text)) S hK Wd iX10_step_X10 tyX10 tyX10_ok nmX10 0 rfl rfl 12 rfl rfl kX10_step_4 rfl rfl rfl dX10_step_46 rfl (fun H locs Wd => ?_)
          refine lv_goto (tgt := 253) S.1 S.2.1 dX10_step_49 rfl ?_
          exact g_vret S Wd hr hlk dX10_step_253 (t_at, t_at, (3 : Int32), (0 : Int32)) hf rfl rfl
      · have hf := g_if hf c2
        refine lv_aload_n S.1 S.2.1 dX10_step_9 rfl (lv_at hl 0 rfl) ?_
        refine lv_dup S.1 S.2.1 dX10_step_10 rfl ?_
        refine g_get (a := a_t) S hK Wd iX10_step_X10 0 rfl rfl 10 rfl rfl kX10_step_1 rfl dX10_step_11 ?_
        refine lv_iconst (v := 1) S.1 S.2.1 dX10_step_14 (by decide) ?_
        refine lv_iadd S.1 S.2.1 dX10_step_15 ?_
        refine g_put (a := a_t) (ws' := (wX10_step cI cB cZ cM cJ cK  a_t a_t_text a_t_corners a_t_streets a_t_ends a_t_time a_t_leaders a_t_home a_t_feet a_t_far a_t_now a_t_isKept a_t_tried a_t_row a_t_who a_t_then a_t_best a_t_seenAs a_t_seenAt a_t_plan t_trace t_typed (t_at + (1 : Int32)) t_start t_sort t_value t_fault t_rowLong t_homes t_bestValue t_seen t_planMany t_text)) S hK Wd iX10_step_X10 tyX10 tyX10_ok nmX10 0 rfl rfl 10 rfl rfl kX10_step_1 rfl rfl rfl dX10_step_16 rfl (fun H locs Wd => ?_)
        refine lv_goto (tgt := 0) S.1 S.2.1 dX10_step_19 rfl ?_
        exact ih (t_at + (1 : Int32)) t_start t_sort t_value _ _ _ Wd hl hf
  exact b0  N t_at t_start t_sort t_value _ _ _ Wd hl hf
def wX10_due (cI cB cZ cM cJ cK : ClassId) (a_t a_t_text a_t_corners a_t_streets a_t_ends a_t_time a_t_leaders a_t_home a_t_feet a_t_far a_t_now a_t_isKept a_t_tried a_t_row a_t_who a_t_then a_t_best a_t_seenAs a_t_seenAt a_t_plan : Nat) (t_trace : Int64) (t_typed t_at t_start t_sort t_value t_fault t_rowLong t_homes t_bestValue t_seen t_planMany : Int32) (t_text : Nat → Int32) : List va_W := [[(a_t, .inr (10, [.long t_trace, .ref a_t_text, .int t_typed, .ref a_t_corners, .ref a_t_streets, .ref a_t_ends, .ref a_t_time, .ref a_t_leaders, .ref a_t_home, .ref a_t_feet, .int t_at, .int t_start, .int t_sort, .int t_value, .int t_fault, .ref a_t_far, .ref a_t_now, .ref a_t_isKept, .ref a_t_tried, .ref a_t_row, .int t_rowLong, .ref a_t_who, .ref a_t_then, .int t_homes, .ref a_t_best, .int t_bestValue, .ref a_t_seenAs, .ref a_t_seenAt, .int t_seen, .ref a_t_plan, .int t_planMany]))], [(a_t_text, .inl (cB, 150, .inl t_text))]]
def rmX10_due : Room := { frames := 2, cells := 0, slots := 0, locals := 43 }
theorem kX10_due_1 : Cond.fieldLink RX10 93 "FeastMarchModel" "value" "I" ∈ wsX10_due := List.mem_of_getElem? (i := 1) rfl
theorem kX10_due_2 : Cond.fieldLink RX10 99 "FeastMarchModel" "fault" "I" ∈ wsX10_due := List.mem_of_getElem? (i := 2) rfl
theorem kX10_due_3 : Cond.fieldLink RX10 90 "FeastMarchModel" "start" "I" ∈ wsX10_due := List.mem_of_getElem? (i := 3) rfl
theorem iX10_due_X10 : ∀ w ∈ wsX100, w ∈ wsX10_due := fun _ h => List.mem_cons_of_mem _ (List.mem_append_right _ h)
theorem n_X10_due : yX10_due.cls = RX10 ∧ yX10_due.cls ≠ "java/lang/invoke/MethodHandle" ∧ yX10_due.cls ≠ "java/lang/invoke/VarHandle" ∧ (parseMethodDescriptor yX10_due.desc).map (fun d => d.parameters.length) = some 1 := by decide +kernel
set_option maxHeartbeats 4000000 in
set_option maxRecDepth 100000 in
theorem c_X10_due (l : Launch) (D : va_G) (N : Nat) (cI cB cZ cM cJ cK : ClassId) (a_t a_t_text a_t_corners a_t_streets a_t_ends a_t_time a_t_leaders a_t_home a_t_feet a_t_far a_t_now a_t_isKept a_t_tried a_t_row a_t_who a_t_then a_t_best a_t_seenAs a_t_seenAt a_t_plan : Nat) (t_trace : Int64) (t_typed t_at t_start t_sort t_value t_fault t_rowLong t_homes t_bestValue t_seen t_planMany : Int32) (t_text : Nat → Int32) (x1 : Int32) : gM l yX10_due wsX10_due rmX10_due D (gT cI cB cZ cM cJ cK) (wX10_due cI cB cZ cM cJ cK  a_t a_t_text a_t_corners a_t_streets a_t_ends a_t_time a_t_leaders a_t_home a_t_feet a_t_far a_t_now a_t_isKept a_t_tried a_t_row a_t_who a_t_then a_t_best a_t_seenAs a_t_seenAt a_t_plan t_trace t_typed t_at t_start t_sort t_value t_fault t_rowLong t_homes t_bestValue t_seen t_planMany t_text) [.ref a_t, .int x1] (fX10_due N t_typed t_at t_start t_sort t_value t_fault t_text x1) (fun _u : Int32 × Int32 × Int32 × Int32 × Int32 × Int32 => some (.int _u.1)) (fun _u : Int32 × Int32 × Int32 × Int32 × Int32 × Int32 => (wX10_due cI cB cZ cM cJ cK  a_t a_t_text a_t_corners a_t_streets a_t_ends a_t_time a_t_leaders a_t_home a_t_feet a_t_far a_t_now a_t_isKept a_t_tried a_t_row a_t_who a_t_then a_t_best a_t_seenAs a_t_seenAt a_t_plan t_trace t_typed _u.2.1 _u.2.2.1 _u.2.2.2.1 _u.2.2.2.2.1 _u.2.2.2.2.2 t_rowLong t_homes t_bestValue t_seen t_planMany t_text)) := by
  refine g_start (cc := cX10_due) (maxL := 3) (ret := (some .int)) (by decide) rfl (Nat.le_of_ble_eq_true rfl) ?_
  intro F hf hF p e s m below meth c A ls S hK hA Wd hr hlk hnm hl
  refine lv_aload_n S.1 S.2.1 dX10_due_0 rfl (lv_at hl 0 rfl) ?_
  refine g_get (a := a_t) S hK Wd iX10_due_X10 0 rfl rfl 13 rfl rfl kX10_due_1 rfl dX10_due_1 ?_
  refine lv_istore_n (lv' := [(2, .int t_value), (0, .ref a_t), (1, .int x1)]) S.1 S.2.1 dX10_due_4 rfl hl (by decide) rfl (fun ls hl => ?_)
  refine lv_aload_n S.1 S.2.1 dX10_due_5 rfl (lv_at hl 1 rfl) ?_
  refine g_get (a := a_t) S hK Wd iX10_due_X10 0 rfl rfl 14 rfl rfl kX10_due_2 rfl dX10_due_6 ?_
  refine lv_bipush (v := (-9)) S.1 S.2.1 dX10_due_9 (by decide) ?_
  refine lv_icmp_ne (tgt := 33) S.1 S.2.1 dX10_due_11 rfl (fun c1 => ?_) (fun c1 => ?_)
  · have hf := g_ifn hf c1
    refine lv_iload_n S.1 S.2.1 dX10_due_33 rfl (lv_at hl 0 rfl) ?_
    exact g_iret S Wd hr hlk dX10_due_34 (t_value, t_at, t_start, t_sort, t_value, t_fault) hf rfl rfl
  · have hf := g_if hf c1
    refine lv_iload_n S.1 S.2.1 dX10_due_14 rfl (lv_at hl 2 rfl) ?_
    refine lv_if_eq (tgt := 25) S.1 S.2.1 dX10_due_15 rfl (fun c2 => ?_) (fun c2 => ?_)
    · have hf := g_if hf c2
      refine lv_aload_n S.1 S.2.1 dX10_due_25 rfl (lv_at hl 1 rfl) ?_
      refine lv_aload_n S.1 S.2.1 dX10_due_26 rfl (lv_at hl 1 rfl) ?_
      refine g_get (a := a_t) S hK Wd iX10_due_X10 0 rfl rfl 11 rfl rfl kX10_due_3 rfl dX10_due_27 ?_
      refine g_put (a := a_t) (ws' := (wX10_due cI cB cZ cM cJ cK  a_t a_t_text a_t_corners a_t_streets a_t_ends a_t_time a_t_leaders a_t_home a_t_feet a_t_far a_t_now a_t_isKept a_t_tried a_t_row a_t_who a_t_then a_t_best a_t_seenAs a_t_seenAt a_t_plan t_trace t_typed t_at t_start t_sort t_value t_start t_rowLong t_homes t_bestValue t_seen t_planMany t_text)) S hK Wd iX10_due_X10 tyX10 tyX10_ok nmX10 0 rfl rfl 14 rfl rfl kX10_due_2 rfl rfl rfl dX10_due_30 rfl (fun H locs Wd => ?_)
      refine lv_iload_n S.1 S.2.1 dX10_due_33 rfl (lv_at hl 0 rfl) ?_
      exact g_iret S Wd hr hlk dX10_due_34 (t_value, t_at, t_start, t_sort, t_value, t_start) hf rfl rfl
    · have hf := g_ifn hf c2
      refine lv_aload_n S.1 S.2.1 dX10_due_18 rfl (lv_at hl 1 rfl) ?_
      obtain ⟨u3, hu3, hf⟩ := g_bind hF hf
      refine g_callV (ws' := (wX10_due cI cB cZ cM cJ cK  a_t a_t_text a_t_corners a_t_streets a_t_ends a_t_time a_t_leaders a_t_home a_t_feet a_t_far a_t_now a_t_isKept a_t_tried a_t_row a_t_who a_t_then a_t_best a_t_seenAs a_t_seenAt a_t_plan t_trace t_typed u3.1 u3.2.1 u3.2.2.1 u3.2.2.2 t_fault t_rowLong t_homes t_bestValue t_seen t_planMany t_text)) (As := []) (rest := []) (st1 := []) S hK hA Wd (c_X10_step l D N cI cB cZ cM cJ cK a_t a_t_text a_t_corners a_t_streets a_t_ends a_t_time a_t_leaders a_t_home a_t_feet a_t_far a_t_now a_t_isKept a_t_tried a_t_row a_t_who a_t_then a_t_best a_t_seenAs a_t_seenAt a_t_plan t_trace t_typed t_at t_start t_sort t_value t_fault t_rowLong t_homes t_bestValue t_seen t_planMany t_text) (cwV 0 S.2.2.2.2 gX10_due_X10_step rfl rfl rfl n_X10_step ⟨Nat.le_of_ble_eq_true rfl, Nat.le_of_ble_eq_true rfl⟩) hu3 [0, 1] rfl rfl 0 10 rfl rfl rfl rfl rfl rfl rfl hl.1 rfl (Nat.le_of_ble_eq_true rfl) dX10_due_19 ⟨Nat.zero_le _, Nat.zero_le _⟩ (fun H locs Wd => ?_)
      refine lv_goto (tgt := 33) S.1 S.2.1 dX10_due_22 rfl ?_
      refine lv_iload_n S.1 S.2.1 dX10_due_33 rfl (lv_at hl 0 rfl) ?_
      exact g_iret S Wd hr hlk dX10_due_34 (t_value, u3.1, u3.2.1, u3.2.2.1, u3.2.2.2, t_fault) hf rfl rfl
def wX10_number (cI cB cZ cM cJ cK : ClassId) (a_t a_t_text a_t_corners a_t_streets a_t_ends a_t_time a_t_leaders a_t_home a_t_feet a_t_far a_t_now a_t_isKept a_t_tried a_t_row a_t_who a_t_then a_t_best a_t_seenAs a_t_seenAt a_t_plan : Nat) (t_trace : Int64) (t_typed t_at t_start t_sort t_value t_fault t_rowLong t_homes t_bestValue t_seen t_planMany : Int32) (t_text : Nat → Int32) : List va_W := [[(a_t, .inr (10, [.long t_trace, .ref a_t_text, .int t_typed, .ref a_t_corners, .ref a_t_streets, .ref a_t_ends, .ref a_t_time, .ref a_t_leaders, .ref a_t_home, .ref a_t_feet, .int t_at, .int t_start, .int t_sort, .int t_value, .int t_fault, .ref a_t_far, .ref a_t_now, .ref a_t_isKept, .ref a_t_tried, .ref a_t_row, .int t_rowLong, .ref a_t_who, .ref a_t_then, .int t_homes, .ref a_t_best, .int t_bestValue, .ref a_t_seenAs, .ref a_t_seenAt, .int t_seen, .ref a_t_plan, .int t_planMany]))], [(a_t_text, .inl (cB, 150, .inl t_text))]]
def rmX10_number : Room := { frames := 3, cells := 0, slots := 0, locals := 65 }
theorem kX10_number_1 : Cond.fieldLink RX10 96 "FeastMarchModel" "sort" "I" ∈ wsX10_number := List.mem_of_getElem? (i := 1) rfl
theorem kX10_number_2 : Cond.fieldLink RX10 93 "FeastMarchModel" "value" "I" ∈ wsX10_number := List.mem_of_getElem? (i := 2) rfl
theorem iX10_number_X10 : ∀ w ∈ wsX100, w ∈ wsX10_number := fun _ h => List.mem_cons_of_mem _ (List.mem_append_right _ h)
theorem n_X10_number : yX10_number.cls = RX10 ∧ yX10_number.cls ≠ "java/lang/invoke/MethodHandle" ∧ yX10_number.cls ≠ "java/lang/invoke/VarHandle" ∧ (parseMethodDescriptor yX10_number.desc).map (fun d => d.parameters.length) = some 2 := by decide +kernel
set_option maxHeartbeats 4000000 in
set_option maxRecDepth 100000 in
theorem c_X10_number (l : Launch) (D : va_G) (N : Nat) (cI cB cZ cM cJ cK : ClassId) (a_t a_t_text a_t_corners a_t_streets a_t_ends a_t_time a_t_leaders a_t_home a_t_feet a_t_far a_t_now a_t_isKept a_t_tried a_t_row a_t_who a_t_then a_t_best a_t_seenAs a_t_seenAt a_t_plan : Nat) (t_trace : Int64) (t_typed t_at t_start t_sort t_value t_fault t_rowLong t_homes t_bestValue t_seen t_planMany : Int32) (t_text : Nat → Int32) (x1 x2 : Int32) : gM l yX10_number wsX10_number rmX10_number D (gT cI cB cZ cM cJ cK) (wX10_number cI cB cZ cM cJ cK  a_t a_t_text a_t_corners a_t_streets a_t_ends a_t_time a_t_leaders a_t_home a_t_feet a_t_far a_t_now a_t_isKept a_t_tried a_t_row a_t_who a_t_then a_t_best a_t_seenAs a_t_seenAt a_t_plan t_trace t_typed t_at t_start t_sort t_value t_fault t_rowLong t_homes t_bestValue t_seen t_planMany t_text) [.ref a_t, .int x1, .int x2] (fX10_number N t_typed t_at t_start t_sort t_value t_fault t_text x1 x2) (fun _u : Int32 × Int32 × Int32 × Int32 × Int32 × Int32 => some (.int _u.1)) (fun _u : Int32 × Int32 × Int32 × Int32 × Int32 × Int32 => (wX10_number cI cB cZ cM cJ cK  a_t a_t_text a_t_corners a_t_streets a_t_ends a_t_time a_t_leaders a_t_home a_t_feet a_t_far a_t_now a_t_isKept a_t_tried a_t_row a_t_who a_t_then a_t_best a_t_seenAs a_t_seenAt a_t_plan t_trace t_typed _u.2.1 _u.2.2.1 _u.2.2.2.1 _u.2.2.2.2.1 _u.2.2.2.2.2 t_rowLong t_homes t_bestValue t_seen t_planMany t_text)) := by
  refine g_start (cc := cX10_number) (maxL := 3) (ret := (some .int)) (by decide) rfl (Nat.le_of_ble_eq_true rfl) ?_
  intro F hf hF p e s m below meth c A ls S hK hA Wd hr hlk hnm hl
  have b26 : ∀ (t_at t_start t_sort t_value t_fault y0 : Int32) (H1 : Heap) (locs1 : List Loc) (ls1 : Array Slot), gw D A s.heap (wX10_number cI cB cZ cM cJ cK  a_t a_t_text a_t_corners a_t_streets a_t_ends a_t_time a_t_leaders a_t_home a_t_feet a_t_far a_t_now a_t_isKept a_t_tried a_t_row a_t_who a_t_then a_t_best a_t_seenAs a_t_seenAt a_t_plan t_trace t_typed t_at t_start t_sort t_value t_fault t_rowLong t_homes t_bestValue t_seen t_planMany t_text) H1 locs1 → lv_has ls1 3 [] → F = fX10_number_b26 N t_typed t_text x1 x2  t_at t_start t_sort t_value t_fault y0 → W p l e rmX10_number s m [.ref a_t, .int x1, .int x2].toArray below meth c H1 locs1 0 0 (MQ below (gQ F (fun _u : Int32 × Int32 × Int32 × Int32 × Int32 × Int32 => some (.int _u.1)) (fun _u : Int32 × Int32 × Int32 × Int32 × Int32 × Int32 => (wX10_number cI cB cZ cM cJ cK  a_t a_t_text a_t_corners a_t_streets a_t_ends a_t_time a_t_leaders a_t_home a_t_feet a_t_far a_t_now a_t_isKept a_t_tried a_t_row a_t_who a_t_then a_t_best a_t_seenAs a_t_seenAt a_t_plan t_trace t_typed _u.2.1 _u.2.2.1 _u.2.2.2.1 _u.2.2.2.2.1 _u.2.2.2.2.2 t_rowLong t_homes t_bestValue t_seen t_planMany t_text)) D A) [.ref a_t, .int x1, .int x2].toArray s 0 0 A) (F0 m 26 ls1 [.int y0, .ref a_t]) := by
    intro  t_at t_start t_sort t_value t_fault y0 H locs ls Wd hl hf
    obtain ⟨u4, hu4, hf⟩ := g_bind hF hf
    refine g_callV (ws' := (wX10_number cI cB cZ cM cJ cK  a_t a_t_text a_t_corners a_t_streets a_t_ends a_t_time a_t_leaders a_t_home a_t_feet a_t_far a_t_now a_t_isKept a_t_tried a_t_row a_t_who a_t_then a_t_best a_t_seenAs a_t_seenAt a_t_plan t_trace t_typed u4.2.1 u4.2.2.1 u4.2.2.2.1 u4.2.2.2.2.1 u4.2.2.2.2.2 t_rowLong t_homes t_bestValue t_seen t_planMany t_text)) (As := [.int y0]) (rest := []) (st1 := [.int u4.1]) S hK hA Wd (c_X10_due l D N cI cB cZ cM cJ cK a_t a_t_text a_t_corners a_t_streets a_t_ends a_t_time a_t_leaders a_t_home a_t_feet a_t_far a_t_now a_t_isKept a_t_tried a_t_row a_t_who a_t_then a_t_best a_t_seenAs a_t_seenAt a_t_plan t_trace t_typed t_at t_start t_sort t_value t_fault t_rowLong t_homes t_bestValue t_seen t_planMany t_text y0) (cwV 1 S.2.2.2.2 gX10_number_X10_due rfl rfl rfl n_X10_due ⟨Nat.le_of_ble_eq_true rfl, Nat.le_of_ble_eq_true rfl⟩) hu4 [0, 1] rfl rfl 0 10 rfl rfl rfl rfl rfl rfl rfl hl.1 rfl (Nat.le_of_ble_eq_true rfl) dX10_number_26 ⟨Nat.zero_le _, Nat.zero_le _⟩ (fun H locs Wd => ?_)
    exact g_iret S Wd hr hlk dX10_number_29 (u4.1, u4.2.1, u4.2.2.1, u4.2.2.2.1, u4.2.2.2.2.1, u4.2.2.2.2.2) hf rfl rfl
  have b25 : ∀ (t_at t_start t_sort t_value t_fault : Int32) (H1 : Heap) (locs1 : List Loc) (ls1 : Array Slot), gw D A s.heap (wX10_number cI cB cZ cM cJ cK  a_t a_t_text a_t_corners a_t_streets a_t_ends a_t_time a_t_leaders a_t_home a_t_feet a_t_far a_t_now a_t_isKept a_t_tried a_t_row a_t_who a_t_then a_t_best a_t_seenAs a_t_seenAt a_t_plan t_trace t_typed t_at t_start t_sort t_value t_fault t_rowLong t_homes t_bestValue t_seen t_planMany t_text) H1 locs1 → lv_has ls1 3 [] → F = fX10_number_b25 N t_typed t_text x1 x2  t_at t_start t_sort t_value t_fault → W p l e rmX10_number s m [.ref a_t, .int x1, .int x2].toArray below meth c H1 locs1 0 0 (MQ below (gQ F (fun _u : Int32 × Int32 × Int32 × Int32 × Int32 × Int32 => some (.int _u.1)) (fun _u : Int32 × Int32 × Int32 × Int32 × Int32 × Int32 => (wX10_number cI cB cZ cM cJ cK  a_t a_t_text a_t_corners a_t_streets a_t_ends a_t_time a_t_leaders a_t_home a_t_feet a_t_far a_t_now a_t_isKept a_t_tried a_t_row a_t_who a_t_then a_t_best a_t_seenAs a_t_seenAt a_t_plan t_trace t_typed _u.2.1 _u.2.2.1 _u.2.2.2.1 _u.2.2.2.2.1 _u.2.2.2.2.2 t_rowLong t_homes t_bestValue t_seen t_planMany t_text)) D A) [.ref a_t, .int x1, .int x2].toArray s 0 0 A) (F0 m 25 ls1 [.ref a_t]) := by
    intro  t_at t_start t_sort t_value t_fault H locs ls Wd hl hf
    refine lv_iconst (v := 0) S.1 S.2.1 dX10_number_25 (by decide) ?_
    exact b26  t_at t_start t_sort t_value t_fault (0 : Int32) _ _ _ Wd hl hf
  refine lv_aload_n S.1 S.2.1 dX10_number_0 rfl (lv_at hl 0 rfl) ?_
  refine lv_aload_n S.1 S.2.1 dX10_number_1 rfl (lv_at hl 0 rfl) ?_
  refine g_get (a := a_t) S hK Wd iX10_number_X10 0 rfl rfl 12 rfl rfl kX10_number_1 rfl dX10_number_2 ?_
  refine lv_iconst (v := 1) S.1 S.2.1 dX10_number_5 (by decide) ?_
  refine lv_icmp_ne (tgt := 25) S.1 S.2.1 dX10_number_6 rfl (fun c1 => ?_) (fun c1 => ?_)
  · have hf := g_ifn hf c1
    exact b25  t_at t_start t_sort t_value t_fault _ _ _ Wd (lv_sub hl [] rfl) hf
  · have hf := g_if hf c1
    refine lv_aload_n S.1 S.2.1 dX10_number_9 rfl (lv_at hl 0 rfl) ?_
    refine g_get (a := a_t) S hK Wd iX10_number_X10 0 rfl rfl 13 rfl rfl kX10_number_2 rfl dX10_number_10 ?_
    refine lv_iload_n S.1 S.2.1 dX10_number_13 rfl (lv_at hl 1 rfl) ?_
    refine lv_iload_n S.1 S.2.1 dX10_number_14 rfl (lv_at hl 2 rfl) ?_
    obtain ⟨u2, hu2, hf⟩ := g_bind hF hf
    refine g_callS (ws' := (wX10_number cI cB cZ cM cJ cK  a_t a_t_text a_t_corners a_t_streets a_t_ends a_t_time a_t_leaders a_t_home a_t_feet a_t_far a_t_now a_t_isKept a_t_tried a_t_row a_t_who a_t_then a_t_best a_t_seenAs a_t_seenAt a_t_plan t_trace t_typed t_at t_start t_sort t_value t_fault t_rowLong t_homes t_bestValue t_seen t_planMany t_text)) (As := [.int t_value, .int x1, .int x2]) (rest := [.ref a_t]) (st1 := [.int u2, .ref a_t]) S hK hA Wd (c_X10_in l D N cI cB cZ cM cJ cK t_value x1 x2) (va_cwS 3 S.2.2.2.2 gX10_number_X10_in rfl rfl rfl n_X10_in ⟨Nat.le_of_ble_eq_true rfl, Nat.le_of_ble_eq_true rfl⟩) hu2 [] rfl rfl rfl rfl rfl rfl hl.1 rfl (Nat.le_of_ble_eq_true rfl) dX10_number_15 ⟨Nat.zero_le _, Nat.zero_le _⟩ (fun H locs Wd => ?_)
    refine lv_if_eq (tgt := 25) S.1 S.2.1 dX10_number_18 rfl (fun c3 => ?_) (fun c3 => ?_)
    · have hf := g_if hf c3
      exact b25  t_at t_start t_sort t_value t_fault _ _ _ Wd (lv_sub hl [] rfl) hf
    · have hf := g_ifn hf c3
      refine lv_iconst (v := 1) S.1 S.2.1 dX10_number_21 (by decide) ?_
      refine lv_goto (tgt := 26) S.1 S.2.1 dX10_number_22 rfl ?_
      exact b26  t_at t_start t_sort t_value t_fault (1 : Int32) _ _ _ Wd (lv_sub hl [] rfl) hf
def wX10_mayBe (cI cB cZ cM cJ cK : ClassId) (a_t a_t_text a_t_corners a_t_streets a_t_ends a_t_time a_t_leaders a_t_home a_t_feet a_t_far a_t_now a_t_isKept a_t_tried a_t_row a_t_who a_t_then a_t_best a_t_seenAs a_t_seenAt a_t_plan : Nat) (t_trace : Int64) (t_typed t_at t_start t_sort t_value t_fault t_rowLong t_homes t_bestValue t_seen t_planMany : Int32) (t_corners t_streets t_leaders : Nat → Int32) : List va_W := [[(a_t, .inr (10, [.long t_trace, .ref a_t_text, .int t_typed, .ref a_t_corners, .ref a_t_streets, .ref a_t_ends, .ref a_t_time, .ref a_t_leaders, .ref a_t_home, .ref a_t_feet, .int t_at, .int t_start, .int t_sort, .int t_value, .int t_fault, .ref a_t_far, .ref a_t_now, .ref a_t_isKept, .ref a_t_tried, .ref a_t_row, .int t_rowLong, .ref a_t_who, .ref a_t_then, .int t_homes, .ref a_t_best, .int t_bestValue, .ref a_t_seenAs, .ref a_t_seenAt, .int t_seen, .ref a_t_plan, .int t_planMany]))], [(a_t_corners, .inl (cI, 2, .inl t_corners))], [(a_t_streets, .inl (cI, 2, .inl t_streets))], [(a_t_leaders, .inl (cI, 2, .inl t_leaders))]]
def rmX10_mayBe : Room := { frames := 0, cells := 0, slots := 0, locals := 0 }
theorem kX10_mayBe_1 : Cond.fieldLink RX10 13 "FeastMarchModel" "corners" "[I" ∈ wsX10_mayBe := List.mem_of_getElem? (i := 1) rfl
theorem kX10_mayBe_2 : Cond.fieldLink RX10 17 "FeastMarchModel" "streets" "[I" ∈ wsX10_mayBe := List.mem_of_getElem? (i := 2) rfl
theorem kX10_mayBe_3 : Cond.fieldLink RX10 26 "FeastMarchModel" "leaders" "[I" ∈ wsX10_mayBe := List.mem_of_getElem? (i := 3) rfl
theorem iX10_mayBe_X10 : ∀ w ∈ wsX100, w ∈ wsX10_mayBe := fun _ h => List.mem_cons_of_mem _ (List.mem_append_right _ h)
theorem n_X10_mayBe : yX10_mayBe.cls = RX10 ∧ yX10_mayBe.cls ≠ "java/lang/invoke/MethodHandle" ∧ yX10_mayBe.cls ≠ "java/lang/invoke/VarHandle" ∧ (parseMethodDescriptor yX10_mayBe.desc).map (fun d => d.parameters.length) = some 1 := by decide +kernel
set_option maxHeartbeats 4000000 in
set_option maxRecDepth 100000 in
theorem c_X10_mayBe (l : Launch) (D : va_G) (N : Nat) (cI cB cZ cM cJ cK : ClassId) (a_t a_t_text a_t_corners a_t_streets a_t_ends a_t_time a_t_leaders a_t_home a_t_feet a_t_far a_t_now a_t_isKept a_t_tried a_t_row a_t_who a_t_then a_t_best a_t_seenAs a_t_seenAt a_t_plan : Nat) (t_trace : Int64) (t_typed t_at t_start t_sort t_value t_fault t_rowLong t_homes t_bestValue t_seen t_planMany : Int32) (t_corners t_streets t_leaders : Nat → Int32) (x1 : Int32) : gM l yX10_mayBe wsX10_mayBe rmX10_mayBe D (gT cI cB cZ cM cJ cK) (wX10_mayBe cI cB cZ cM cJ cK  a_t a_t_text a_t_corners a_t_streets a_t_ends a_t_time a_t_leaders a_t_home a_t_feet a_t_far a_t_now a_t_isKept a_t_tried a_t_row a_t_who a_t_then a_t_best a_t_seenAs a_t_seenAt a_t_plan t_trace t_typed t_at t_start t_sort t_value t_fault t_rowLong t_homes t_bestValue t_seen t_planMany t_corners t_streets t_leaders) [.ref a_t, .int x1] (fX10_mayBe N t_corners t_streets t_leaders x1) (fun _u : Int32 => some (.int _u)) (fun _u : Int32 => (wX10_mayBe cI cB cZ cM cJ cK  a_t a_t_text a_t_corners a_t_streets a_t_ends a_t_time a_t_leaders a_t_home a_t_feet a_t_far a_t_now a_t_isKept a_t_tried a_t_row a_t_who a_t_then a_t_best a_t_seenAs a_t_seenAt a_t_plan t_trace t_typed t_at t_start t_sort t_value t_fault t_rowLong t_homes t_bestValue t_seen t_planMany t_corners t_streets t_leaders)) := by
  refine g_start (cc := cX10_mayBe) (maxL := 2) (ret := (some .boolean)) (by decide) rfl (Nat.le_of_ble_eq_true rfl) ?_
  intro F hf hF p e s m below meth c A ls S hK hA Wd hr hlk hnm hl
  refine lv_aload_n S.1 S.2.1 dX10_mayBe_0 rfl (lv_at hl 0 rfl) ?_
  refine g_get (a := a_t) S hK Wd iX10_mayBe_X10 0 rfl rfl 3 rfl rfl kX10_mayBe_1 rfl dX10_mayBe_1 ?_
  refine lv_iconst (v := 1) S.1 S.2.1 dX10_mayBe_4 (by decide) ?_
  refine g_iald (a := a_t_corners) S hK Wd 1 0 rfl rfl (show ¬ (((1 : Int32) < 0) ∨ 2 ≤ Int32.toNatClampNeg (1 : Int32)) from by decide) dX10_mayBe_5 ?_
  refine lv_if_ne (tgt := 21) S.1 S.2.1 dX10_mayBe_6 rfl (fun c1 => ?_) (fun c1 => ?_)
  · have hf := g_ifn hf c1
    refine lv_iload_n S.1 S.2.1 dX10_mayBe_21 rfl (lv_at hl 1 rfl) ?_
    refine lv_bipush (v := 115) S.1 S.2.1 dX10_mayBe_22 (by decide) ?_
    refine lv_icmp_ne (tgt := 46) S.1 S.2.1 dX10_mayBe_24 rfl (fun c2 => ?_) (fun c2 => ?_)
    · have hf := g_ifn hf c2
      refine lv_iload_n S.1 S.2.1 dX10_mayBe_46 rfl (lv_at hl 1 rfl) ?_
      refine lv_bipush (v := 108) S.1 S.2.1 dX10_mayBe_47 (by decide) ?_
      refine lv_icmp_ne (tgt := 67) S.1 S.2.1 dX10_mayBe_49 rfl (fun c3 => ?_) (fun c3 => ?_)
      · have hf := g_ifn hf c3
        refine lv_iconst (v := 0) S.1 S.2.1 dX10_mayBe_67 (by decide) ?_
        exact g_zret S Wd hr hlk rfl dX10_mayBe_68 (0 : Int32) hf rfl rfl
      · have hf := g_if hf c3
        refine lv_aload_n S.1 S.2.1 dX10_mayBe_52 rfl (lv_at hl 0 rfl) ?_
        refine g_get (a := a_t) S hK Wd iX10_mayBe_X10 0 rfl rfl 7 rfl rfl kX10_mayBe_3 rfl dX10_mayBe_53 ?_
        refine lv_iconst (v := 1) S.1 S.2.1 dX10_mayBe_56 (by decide) ?_
        refine g_iald (a := a_t_leaders) S hK Wd 3 0 rfl rfl (show ¬ (((1 : Int32) < 0) ∨ 2 ≤ Int32.toNatClampNeg (1 : Int32)) from by decide) dX10_mayBe_57 ?_
        refine lv_bipush (v := 6) S.1 S.2.1 dX10_mayBe_58 (by decide) ?_
        refine lv_icmp_ge (tgt := 67) S.1 S.2.1 dX10_mayBe_60 rfl (fun c4 => ?_) (fun c4 => ?_)
        · have hf := g_if hf c4
          refine lv_iconst (v := 0) S.1 S.2.1 dX10_mayBe_67 (by decide) ?_
          exact g_zret S Wd hr hlk rfl dX10_mayBe_68 (0 : Int32) hf rfl rfl
        · have hf := g_ifn hf c4
          refine lv_iconst (v := 1) S.1 S.2.1 dX10_mayBe_63 (by decide) ?_
          refine lv_goto (tgt := 68) S.1 S.2.1 dX10_mayBe_64 rfl ?_
          exact g_zret S Wd hr hlk rfl dX10_mayBe_68 (1 : Int32) hf rfl rfl
    · have hf := g_if hf c2
      refine lv_aload_n S.1 S.2.1 dX10_mayBe_27 rfl (lv_at hl 0 rfl) ?_
      refine g_get (a := a_t) S hK Wd iX10_mayBe_X10 0 rfl rfl 4 rfl rfl kX10_mayBe_2 rfl dX10_mayBe_28 ?_
      refine lv_iconst (v := 1) S.1 S.2.1 dX10_mayBe_31 (by decide) ?_
      refine g_iald (a := a_t_streets) S hK Wd 2 0 rfl rfl (show ¬ (((1 : Int32) < 0) ∨ 2 ≤ Int32.toNatClampNeg (1 : Int32)) from by decide) dX10_mayBe_32 ?_
      refine lv_bipush (v := 12) S.1 S.2.1 dX10_mayBe_33 (by decide) ?_
      refine lv_icmp_ge (tgt := 42) S.1 S.2.1 dX10_mayBe_35 rfl (fun c5 => ?_) (fun c5 => ?_)
      · have hf := g_if hf c5
        refine lv_iconst (v := 0) S.1 S.2.1 dX10_mayBe_42 (by decide) ?_
        refine lv_goto (tgt := 68) S.1 S.2.1 dX10_mayBe_43 rfl ?_
        exact g_zret S Wd hr hlk rfl dX10_mayBe_68 (0 : Int32) hf rfl rfl
      · have hf := g_ifn hf c5
        refine lv_iconst (v := 1) S.1 S.2.1 dX10_mayBe_38 (by decide) ?_
        refine lv_goto (tgt := 68) S.1 S.2.1 dX10_mayBe_39 rfl ?_
        exact g_zret S Wd hr hlk rfl dX10_mayBe_68 (1 : Int32) hf rfl rfl
  · have hf := g_if hf c1
    refine lv_iload_n S.1 S.2.1 dX10_mayBe_9 rfl (lv_at hl 1 rfl) ?_
    refine lv_bipush (v := 99) S.1 S.2.1 dX10_mayBe_10 (by decide) ?_
    refine lv_icmp_ne (tgt := 19) S.1 S.2.1 dX10_mayBe_12 rfl (fun c6 => ?_) (fun c6 => ?_)
    · have hf := g_ifn hf c6
      refine lv_iconst (v := 0) S.1 S.2.1 dX10_mayBe_19 (by decide) ?_
      exact g_zret S Wd hr hlk rfl dX10_mayBe_20 (0 : Int32) hf rfl rfl
    · have hf := g_if hf c6
      refine lv_iconst (v := 1) S.1 S.2.1 dX10_mayBe_15 (by decide) ?_
      refine lv_goto (tgt := 20) S.1 S.2.1 dX10_mayBe_16 rfl ?_
      exact g_zret S Wd hr hlk rfl dX10_mayBe_20 (1 : Int32) hf rfl rfl
def wX10_readRow (cI cB cZ cM cJ cK : ClassId) (a_t a_t_text a_t_corners a_t_streets a_t_ends a_t_time a_t_leaders a_t_home a_t_feet a_t_far a_t_now a_t_isKept a_t_tried a_t_row a_t_who a_t_then a_t_best a_t_seenAs a_t_seenAt a_t_plan : Nat) (t_trace : Int64) (t_typed t_at t_start t_sort t_value t_fault t_rowLong t_homes t_bestValue t_seen t_planMany : Int32) (t_text t_corners t_streets t_ends t_time t_leaders t_home t_feet : Nat → Int32) : List va_W := [[(a_t, .inr (10, [.long t_trace, .ref a_t_text, .int t_typed, .ref a_t_corners, .ref a_t_streets, .ref a_t_ends, .ref a_t_time, .ref a_t_leaders, .ref a_t_home, .ref a_t_feet, .int t_at, .int t_start, .int t_sort, .int t_value, .int t_fault, .ref a_t_far, .ref a_t_now, .ref a_t_isKept, .ref a_t_tried, .ref a_t_row, .int t_rowLong, .ref a_t_who, .ref a_t_then, .int t_homes, .ref a_t_best, .int t_bestValue, .ref a_t_seenAs, .ref a_t_seenAt, .int t_seen, .ref a_t_plan, .int t_planMany]))], [(a_t_text, .inl (cB, 150, .inl t_text))], [(a_t_corners, .inl (cI, 2, .inl t_corners))], [(a_t_streets, .inl (cI, 2, .inl t_streets))], [(a_t_ends, .inl (cI, 48, .inl t_ends))], [(a_t_time, .inl (cI, 24, .inl t_time))], [(a_t_leaders, .inl (cI, 2, .inl t_leaders))], [(a_t_home, .inl (cI, 12, .inl t_home))], [(a_t_feet, .inl (cI, 12, .inl t_feet))]]
def rmX10_readRow : Room := { frames := 4, cells := 0, slots := 0, locals := 87 }
theorem kX10_readRow_1 : Cond.fieldLink RX10 13 "FeastMarchModel" "corners" "[I" ∈ wsX10_readRow := List.mem_of_getElem? (i := 1) rfl
theorem kX10_readRow_2 : Cond.fieldLink RX10 17 "FeastMarchModel" "streets" "[I" ∈ wsX10_readRow := List.mem_of_getElem? (i := 2) rfl
theorem kX10_readRow_3 : Cond.fieldLink RX10 20 "FeastMarchModel" "ends" "[I" ∈ wsX10_readRow := List.mem_of_getElem? (i := 3) rfl
theorem kX10_readRow_4 : Cond.fieldLink RX10 96 "FeastMarchModel" "sort" "I" ∈ wsX10_readRow := List.mem_of_getElem? (i := 4) rfl
theorem kX10_readRow_5 : Cond.fieldLink RX10 93 "FeastMarchModel" "value" "I" ∈ wsX10_readRow := List.mem_of_getElem? (i := 5) rfl
theorem kX10_readRow_6 : Cond.fieldLink RX10 23 "FeastMarchModel" "time" "[I" ∈ wsX10_readRow := List.mem_of_getElem? (i := 6) rfl
theorem kX10_readRow_7 : Cond.fieldLink RX10 26 "FeastMarchModel" "leaders" "[I" ∈ wsX10_readRow := List.mem_of_getElem? (i := 7) rfl
theorem kX10_readRow_8 : Cond.fieldLink RX10 29 "FeastMarchModel" "home" "[I" ∈ wsX10_readRow := List.mem_of_getElem? (i := 8) rfl
theorem kX10_readRow_9 : Cond.fieldLink RX10 32 "FeastMarchModel" "feet" "[I" ∈ wsX10_readRow := List.mem_of_getElem? (i := 9) rfl
theorem iX10_readRow_X10 : ∀ w ∈ wsX100, w ∈ wsX10_readRow := fun _ h => List.mem_cons_of_mem _ (List.mem_append_right _ h)
theorem n_X10_readRow : yX10_readRow.cls = RX10 ∧ yX10_readRow.cls ≠ "java/lang/invoke/MethodHandle" ∧ yX10_readRow.cls ≠ "java/lang/invoke/VarHandle" ∧ (parseMethodDescriptor yX10_readRow.desc).map (fun d => d.parameters.length) = some 1 := by decide +kernel
set_option maxHeartbeats 4000000 in
set_option maxRecDepth 100000 in
theorem c_X10_readRow (l : Launch) (D : va_G) (N : Nat) (cI cB cZ cM cJ cK : ClassId) (a_t a_t_text a_t_corners a_t_streets a_t_ends a_t_time a_t_leaders a_t_home a_t_feet a_t_far a_t_now a_t_isKept a_t_tried a_t_row a_t_who a_t_then a_t_best a_t_seenAs a_t_seenAt a_t_plan : Nat) (t_trace : Int64) (t_typed t_at t_start t_sort t_value t_fault t_rowLong t_homes t_bestValue t_seen t_planMany : Int32) (t_text t_corners t_streets t_ends t_time t_leaders t_home t_feet : Nat → Int32) (x1 : Int32) : gM l yX10_readRow wsX10_readRow rmX10_readRow D (gT cI cB cZ cM cJ cK) (wX10_readRow cI cB cZ cM cJ cK  a_t a_t_text a_t_corners a_t_streets a_t_ends a_t_time a_t_leaders a_t_home a_t_feet a_t_far a_t_now a_t_isKept a_t_tried a_t_row a_t_who a_t_then a_t_best a_t_seenAs a_t_seenAt a_t_plan t_trace t_typed t_at t_start t_sort t_value t_fault t_rowLong t_homes t_bestValue t_seen t_planMany t_text t_corners t_streets t_ends t_time t_leaders t_home t_feet) [.ref a_t, .int x1] (fX10_readRow N t_typed t_at t_start t_sort t_value t_fault t_text t_corners t_streets t_ends t_time t_leaders t_home t_feet x1) (fun _u : Int32 × Int32 × Int32 × Int32 × Int32 × (Nat → Int32) × (Nat → Int32) × (Nat → Int32) × (Nat → Int32) × (Nat → Int32) × (Nat → Int32) × (Nat → Int32) => none) (fun _u : Int32 × Int32 × Int32 × Int32 × Int32 × (Nat → Int32) × (Nat → Int32) × (Nat → Int32) × (Nat → Int32) × (Nat → Int32) × (Nat → Int32) × (Nat → Int32) => (wX10_readRow cI cB cZ cM cJ cK  a_t a_t_text a_t_corners a_t_streets a_t_ends a_t_time a_t_leaders a_t_home a_t_feet a_t_far a_t_now a_t_isKept a_t_tried a_t_row a_t_who a_t_then a_t_best a_t_seenAs a_t_seenAt a_t_plan t_trace t_typed _u.1 _u.2.1 _u.2.2.1 _u.2.2.2.1 _u.2.2.2.2.1 t_rowLong t_homes t_bestValue t_seen t_planMany t_text _u.2.2.2.2.2.1 _u.2.2.2.2.2.2.1 _u.2.2.2.2.2.2.2.1 _u.2.2.2.2.2.2.2.2.1 _u.2.2.2.2.2.2.2.2.2.1 _u.2.2.2.2.2.2.2.2.2.2.1 _u.2.2.2.2.2.2.2.2.2.2.2)) := by
  refine g_start (cc := cX10_readRow) (maxL := 3) (ret := none) (by decide) rfl (Nat.le_of_ble_eq_true rfl) ?_
  intro F hf hF p e s m below meth c A ls S hK hA Wd hr hlk hnm hl
  have b110 : ∀ (t_at t_start t_sort t_value t_fault : Int32) (t_corners t_streets t_ends t_time t_leaders t_home t_feet : Nat → Int32) (x2 y0 y2 : Int32) (H1 : Heap) (locs1 : List Loc) (ls1 : Array Slot), gw D A s.heap (wX10_readRow cI cB cZ cM cJ cK  a_t a_t_text a_t_corners a_t_streets a_t_ends a_t_time a_t_leaders a_t_home a_t_feet a_t_far a_t_now a_t_isKept a_t_tried a_t_row a_t_who a_t_then a_t_best a_t_seenAs a_t_seenAt a_t_plan t_trace t_typed t_at t_start t_sort t_value t_fault t_rowLong t_homes t_bestValue t_seen t_planMany t_text t_corners t_streets t_ends t_time t_leaders t_home t_feet) H1 locs1 → lv_has ls1 3 [(0, .ref a_t), (2, .int x2)] → F = fX10_readRow_b110 N t_typed t_text x1  t_at t_start t_sort t_value t_fault t_corners t_streets t_ends t_time t_leaders t_home t_feet x2 y0 y2 → W p l e rmX10_readRow s m [.ref a_t, .int x1].toArray below meth c H1 locs1 0 0 (MQ below (gQ F (fun _u : Int32 × Int32 × Int32 × Int32 × Int32 × (Nat → Int32) × (Nat → Int32) × (Nat → Int32) × (Nat → Int32) × (Nat → Int32) × (Nat → Int32) × (Nat → Int32) => none) (fun _u : Int32 × Int32 × Int32 × Int32 × Int32 × (Nat → Int32) × (Nat → Int32) × (Nat → Int32) × (Nat → Int32) × (Nat → Int32) × (Nat → Int32) × (Nat → Int32) => (wX10_readRow cI cB cZ cM cJ cK  a_t a_t_text a_t_corners a_t_streets a_t_ends a_t_time a_t_leaders a_t_home a_t_feet a_t_far a_t_now a_t_isKept a_t_tried a_t_row a_t_who a_t_then a_t_best a_t_seenAs a_t_seenAt a_t_plan t_trace t_typed _u.1 _u.2.1 _u.2.2.1 _u.2.2.2.1 _u.2.2.2.2.1 t_rowLong t_homes t_bestValue t_seen t_planMany t_text _u.2.2.2.2.2.1 _u.2.2.2.2.2.2.1 _u.2.2.2.2.2.2.2.1 _u.2.2.2.2.2.2.2.2.1 _u.2.2.2.2.2.2.2.2.2.1 _u.2.2.2.2.2.2.2.2.2.2.1 _u.2.2.2.2.2.2.2.2.2.2.2)) D A) [.ref a_t, .int x1].toArray s 0 0 A) (F0 m 110 ls1 [.int y0, .ref a_t, .int y2, .ref a_t_ends]) := by
    intro  t_at t_start t_sort t_value t_fault t_corners t_streets t_ends t_time t_leaders t_home t_feet x2 y0 y2 H locs ls Wd hl hf
    obtain ⟨u14, hu14, hf⟩ := g_bind hF hf
    refine g_callV (ws' := (wX10_readRow cI cB cZ cM cJ cK  a_t a_t_text a_t_corners a_t_streets a_t_ends a_t_time a_t_leaders a_t_home a_t_feet a_t_far a_t_now a_t_isKept a_t_tried a_t_row a_t_who a_t_then a_t_best a_t_seenAs a_t_seenAt a_t_plan t_trace t_typed u14.2.1 u14.2.2.1 u14.2.2.2.1 u14.2.2.2.2.1 u14.2.2.2.2.2 t_rowLong t_homes t_bestValue t_seen t_planMany t_text t_corners t_streets t_ends t_time t_leaders t_home t_feet)) (As := [.int y0]) (rest := [.int y2, .ref a_t_ends]) (st1 := [.int u14.1, .int y2, .ref a_t_ends]) S hK hA Wd (c_X10_due l D N cI cB cZ cM cJ cK a_t a_t_text a_t_corners a_t_streets a_t_ends a_t_time a_t_leaders a_t_home a_t_feet a_t_far a_t_now a_t_isKept a_t_tried a_t_row a_t_who a_t_then a_t_best a_t_seenAs a_t_seenAt a_t_plan t_trace t_typed t_at t_start t_sort t_value t_fault t_rowLong t_homes t_bestValue t_seen t_planMany t_text y0) (cwV 1 S.2.2.2.2 gX10_readRow_X10_due rfl rfl rfl n_X10_due ⟨Nat.le_of_ble_eq_true rfl, Nat.le_of_ble_eq_true rfl⟩) hu14 [0, 1] rfl rfl 0 10 rfl rfl rfl rfl rfl rfl rfl hl.1 rfl (Nat.le_of_ble_eq_true rfl) dX10_readRow_110 ⟨Nat.zero_le _, Nat.zero_le _⟩ (fun H locs Wd => ?_)
    obtain ⟨h15, hf⟩ := g_gi hF hf
    refine g_iast (a := a_t_ends) (ws' := (wX10_readRow cI cB cZ cM cJ cK  a_t a_t_text a_t_corners a_t_streets a_t_ends a_t_time a_t_leaders a_t_home a_t_feet a_t_far a_t_now a_t_isKept a_t_tried a_t_row a_t_who a_t_then a_t_best a_t_seenAs a_t_seenAt a_t_plan t_trace t_typed u14.2.1 u14.2.2.1 u14.2.2.2.1 u14.2.2.2.2.1 u14.2.2.2.2.2 t_rowLong t_homes t_bestValue t_seen t_planMany t_text t_corners t_streets (upd t_ends y2.toNatClampNeg u14.1) t_time t_leaders t_home t_feet)) S hK Wd 4 0 rfl rfl h15 dX10_readRow_113 rfl (fun H locs Wd => ?_)
    refine lv_aload_n S.1 S.2.1 dX10_readRow_114 rfl (lv_at hl 0 rfl) ?_
    refine g_get (a := a_t) S hK Wd iX10_readRow_X10 0 rfl rfl 6 rfl rfl kX10_readRow_6 rfl dX10_readRow_115 ?_
    refine lv_iload_n S.1 S.2.1 dX10_readRow_118 rfl (lv_at hl 1 rfl) ?_
    refine lv_aload_n S.1 S.2.1 dX10_readRow_119 rfl (lv_at hl 0 rfl) ?_
    refine lv_iconst (v := 1) S.1 S.2.1 dX10_readRow_120 (by decide) ?_
    refine lv_bipush (v := 9) S.1 S.2.1 dX10_readRow_121 (by decide) ?_
    obtain ⟨u16, hu16, hf⟩ := g_bind hF hf
    refine g_callV (ws' := (wX10_readRow cI cB cZ cM cJ cK  a_t a_t_text a_t_corners a_t_streets a_t_ends a_t_time a_t_leaders a_t_home a_t_feet a_t_far a_t_now a_t_isKept a_t_tried a_t_row a_t_who a_t_then a_t_best a_t_seenAs a_t_seenAt a_t_plan t_trace t_typed u16.2.1 u16.2.2.1 u16.2.2.2.1 u16.2.2.2.2.1 u16.2.2.2.2.2 t_rowLong t_homes t_bestValue t_seen t_planMany t_text t_corners t_streets (upd t_ends y2.toNatClampNeg u14.1) t_time t_leaders t_home t_feet)) (As := [.int (1 : Int32), .int (9 : Int32)]) (rest := [.int x2, .ref a_t_time]) (st1 := [.int u16.1, .int x2, .ref a_t_time]) S hK hA Wd (c_X10_number l D N cI cB cZ cM cJ cK a_t a_t_text a_t_corners a_t_streets a_t_ends a_t_time a_t_leaders a_t_home a_t_feet a_t_far a_t_now a_t_isKept a_t_tried a_t_row a_t_who a_t_then a_t_best a_t_seenAs a_t_seenAt a_t_plan t_trace t_typed u14.2.1 u14.2.2.1 u14.2.2.2.1 u14.2.2.2.2.1 u14.2.2.2.2.2 t_rowLong t_homes t_bestValue t_seen t_planMany t_text (1 : Int32) (9 : Int32)) (cwV 2 S.2.2.2.2 gX10_readRow_X10_number rfl rfl rfl n_X10_number ⟨Nat.le_of_ble_eq_true rfl, Nat.le_of_ble_eq_true rfl⟩) hu16 [0, 1] rfl rfl 0 10 rfl rfl rfl rfl rfl rfl rfl hl.1 rfl (Nat.le_of_ble_eq_true rfl) dX10_readRow_123 ⟨Nat.zero_le _, Nat.zero_le _⟩ (fun H locs Wd => ?_)
    obtain ⟨h17, hf⟩ := g_gi hF hf
    refine g_iast (a := a_t_time) (ws' := (wX10_readRow cI cB cZ cM cJ cK  a_t a_t_text a_t_corners a_t_streets a_t_ends a_t_time a_t_leaders a_t_home a_t_feet a_t_far a_t_now a_t_isKept a_t_tried a_t_row a_t_who a_t_then a_t_best a_t_seenAs a_t_seenAt a_t_plan t_trace t_typed u16.2.1 u16.2.2.1 u16.2.2.2.1 u16.2.2.2.2.1 u16.2.2.2.2.2 t_rowLong t_homes t_bestValue t_seen t_planMany t_text t_corners t_streets (upd t_ends y2.toNatClampNeg u14.1) (upd t_time x2.toNatClampNeg u16.1) t_leaders t_home t_feet)) S hK Wd 5 0 rfl rfl h17 dX10_readRow_126 rfl (fun H locs Wd => ?_)
    refine lv_aload_n S.1 S.2.1 dX10_readRow_127 rfl (lv_at hl 0 rfl) ?_
    refine g_get (a := a_t) S hK Wd iX10_readRow_X10 0 rfl rfl 4 rfl rfl kX10_readRow_2 rfl dX10_readRow_128 ?_
    refine lv_iconst (v := 1) S.1 S.2.1 dX10_readRow_131 (by decide) ?_
    refine lv_dup2_11 S.1 S.2.1 dX10_readRow_132 rfl rfl ?_
    refine g_iald (a := a_t_streets) S hK Wd 3 0 rfl rfl (show ¬ (((1 : Int32) < 0) ∨ 2 ≤ Int32.toNatClampNeg (1 : Int32)) from by decide) dX10_readRow_133 ?_
    refine lv_iconst (v := 1) S.1 S.2.1 dX10_readRow_134 (by decide) ?_
    refine lv_iadd S.1 S.2.1 dX10_readRow_135 ?_
    refine g_iast (a := a_t_streets) (ws' := (wX10_readRow cI cB cZ cM cJ cK  a_t a_t_text a_t_corners a_t_streets a_t_ends a_t_time a_t_leaders a_t_home a_t_feet a_t_far a_t_now a_t_isKept a_t_tried a_t_row a_t_who a_t_then a_t_best a_t_seenAs a_t_seenAt a_t_plan t_trace t_typed u16.2.1 u16.2.2.1 u16.2.2.2.1 u16.2.2.2.2.1 u16.2.2.2.2.2 t_rowLong t_homes t_bestValue t_seen t_planMany t_text t_corners (upd t_streets (1 : Int32).toNatClampNeg ((t_streets (1 : Int32).toNatClampNeg) + (1 : Int32))) (upd t_ends y2.toNatClampNeg u14.1) (upd t_time x2.toNatClampNeg u16.1) t_leaders t_home t_feet)) S hK Wd 3 0 rfl rfl (show ¬ (((1 : Int32) < 0) ∨ 2 ≤ Int32.toNatClampNeg (1 : Int32)) from by decide) dX10_readRow_136 rfl (fun H locs Wd => ?_)
    refine lv_goto (tgt := 191) S.1 S.2.1 dX10_readRow_137 rfl ?_
    exact g_vret S Wd hr hlk dX10_readRow_191 (u16.2.1, u16.2.2.1, u16.2.2.2.1, u16.2.2.2.2.1, u16.2.2.2.2.2, t_corners, (upd t_streets (1 : Int32).toNatClampNeg ((t_streets (1 : Int32).toNatClampNeg) + (1 : Int32))), (upd t_ends y2.toNatClampNeg u14.1), (upd t_time x2.toNatClampNeg u16.1), t_leaders, t_home, t_feet) hf rfl rfl
  have b109 : ∀ (t_at t_start t_sort t_value t_fault : Int32) (t_corners t_streets t_ends t_time t_leaders t_home t_feet : Nat → Int32) (x2 y1 : Int32) (H1 : Heap) (locs1 : List Loc) (ls1 : Array Slot), gw D A s.heap (wX10_readRow cI cB cZ cM cJ cK  a_t a_t_text a_t_corners a_t_streets a_t_ends a_t_time a_t_leaders a_t_home a_t_feet a_t_far a_t_now a_t_isKept a_t_tried a_t_row a_t_who a_t_then a_t_best a_t_seenAs a_t_seenAt a_t_plan t_trace t_typed t_at t_start t_sort t_value t_fault t_rowLong t_homes t_bestValue t_seen t_planMany t_text t_corners t_streets t_ends t_time t_leaders t_home t_feet) H1 locs1 → lv_has ls1 3 [(0, .ref a_t), (2, .int x2)] → F = fX10_readRow_b109 N t_typed t_text x1  t_at t_start t_sort t_value t_fault t_corners t_streets t_ends t_time t_leaders t_home t_feet x2 y1 → W p l e rmX10_readRow s m [.ref a_t, .int x1].toArray below meth c H1 locs1 0 0 (MQ below (gQ F (fun _u : Int32 × Int32 × Int32 × Int32 × Int32 × (Nat → Int32) × (Nat → Int32) × (Nat → Int32) × (Nat → Int32) × (Nat → Int32) × (Nat → Int32) × (Nat → Int32) => none) (fun _u : Int32 × Int32 × Int32 × Int32 × Int32 × (Nat → Int32) × (Nat → Int32) × (Nat → Int32) × (Nat → Int32) × (Nat → Int32) × (Nat → Int32) × (Nat → Int32) => (wX10_readRow cI cB cZ cM cJ cK  a_t a_t_text a_t_corners a_t_streets a_t_ends a_t_time a_t_leaders a_t_home a_t_feet a_t_far a_t_now a_t_isKept a_t_tried a_t_row a_t_who a_t_then a_t_best a_t_seenAs a_t_seenAt a_t_plan t_trace t_typed _u.1 _u.2.1 _u.2.2.1 _u.2.2.2.1 _u.2.2.2.2.1 t_rowLong t_homes t_bestValue t_seen t_planMany t_text _u.2.2.2.2.2.1 _u.2.2.2.2.2.2.1 _u.2.2.2.2.2.2.2.1 _u.2.2.2.2.2.2.2.2.1 _u.2.2.2.2.2.2.2.2.2.1 _u.2.2.2.2.2.2.2.2.2.2.1 _u.2.2.2.2.2.2.2.2.2.2.2)) D A) [.ref a_t, .int x1].toArray s 0 0 A) (F0 m 109 ls1 [.ref a_t, .int y1, .ref a_t_ends]) := by
    intro  t_at t_start t_sort t_value t_fault t_corners t_streets t_ends t_time t_leaders t_home t_feet x2 y1 H locs ls Wd hl hf
    refine lv_iconst (v := 0) S.1 S.2.1 dX10_readRow_109 (by decide) ?_
    exact b110  t_at t_start t_sort t_value t_fault t_corners t_streets t_ends t_time t_leaders t_home t_feet x2 (0 : Int32) y1 _ _ _ Wd hl hf
  refine lv_iload_n S.1 S.2.1 dX10_readRow_0 rfl (lv_at hl 1 rfl) ?_
  refine lv_bipush (v := 99) S.1 S.2.1 dX10_readRow_1 (by decide) ?_
  refine lv_icmp_ne (tgt := 22) S.1 S.2.1 dX10_readRow_3 rfl (fun c1 => ?_) (fun c1 => ?_)
  · have hf := g_ifn hf c1
    refine lv_iload_n S.1 S.2.1 dX10_readRow_22 rfl (lv_at hl 1 rfl) ?_
    refine lv_bipush (v := 115) S.1 S.2.1 dX10_readRow_23 (by decide) ?_
    refine lv_icmp_ne (tgt := 140) S.1 S.2.1 dX10_readRow_25 rfl (fun c2 => ?_) (fun c2 => ?_)
    · have hf := g_ifn hf c2
      refine lv_bipush (v := 6) S.1 S.2.1 dX10_readRow_140 (by decide) ?_
      refine lv_aload_n S.1 S.2.1 dX10_readRow_142 rfl (lv_at hl 0 rfl) ?_
      refine g_get (a := a_t) S hK Wd iX10_readRow_X10 0 rfl rfl 7 rfl rfl kX10_readRow_7 rfl dX10_readRow_143 ?_
      refine lv_iconst (v := 1) S.1 S.2.1 dX10_readRow_146 (by decide) ?_
      refine g_iald (a := a_t_leaders) S hK Wd 6 0 rfl rfl (show ¬ (((1 : Int32) < 0) ∨ 2 ≤ Int32.toNatClampNeg (1 : Int32)) from by decide) dX10_readRow_147 ?_
      refine lv_iadd S.1 S.2.1 dX10_readRow_148 ?_
      refine lv_istore_n (lv' := [(2, .int ((6 : Int32) + (t_leaders (1 : Int32).toNatClampNeg))), (0, .ref a_t), (1, .int x1)]) S.1 S.2.1 dX10_readRow_149 rfl hl (by decide) rfl (fun ls hl => ?_)
      refine lv_aload_n S.1 S.2.1 dX10_readRow_150 rfl (lv_at hl 1 rfl) ?_
      refine g_get (a := a_t) S hK Wd iX10_readRow_X10 0 rfl rfl 8 rfl rfl kX10_readRow_8 rfl dX10_readRow_151 ?_
      refine lv_iload_n S.1 S.2.1 dX10_readRow_154 rfl (lv_at hl 0 rfl) ?_
      refine lv_aload_n S.1 S.2.1 dX10_readRow_155 rfl (lv_at hl 1 rfl) ?_
      refine lv_iconst (v := 0) S.1 S.2.1 dX10_readRow_156 (by decide) ?_
      refine lv_aload_n S.1 S.2.1 dX10_readRow_157 rfl (lv_at hl 1 rfl) ?_
      refine g_get (a := a_t) S hK Wd iX10_readRow_X10 0 rfl rfl 3 rfl rfl kX10_readRow_1 rfl dX10_readRow_158 ?_
      refine lv_iconst (v := 1) S.1 S.2.1 dX10_readRow_161 (by decide) ?_
      refine g_iald (a := a_t_corners) S hK Wd 2 0 rfl rfl (show ¬ (((1 : Int32) < 0) ∨ 2 ≤ Int32.toNatClampNeg (1 : Int32)) from by decide) dX10_readRow_162 ?_
      refine lv_iconst (v := 1) S.1 S.2.1 dX10_readRow_163 (by decide) ?_
      refine lv_isub S.1 S.2.1 dX10_readRow_164 ?_
      obtain ⟨u3, hu3, hf⟩ := g_bind hF hf
      refine g_callV (ws' := (wX10_readRow cI cB cZ cM cJ cK  a_t a_t_text a_t_corners a_t_streets a_t_ends a_t_time a_t_leaders a_t_home a_t_feet a_t_far a_t_now a_t_isKept a_t_tried a_t_row a_t_who a_t_then a_t_best a_t_seenAs a_t_seenAt a_t_plan t_trace t_typed u3.2.1 u3.2.2.1 u3.2.2.2.1 u3.2.2.2.2.1 u3.2.2.2.2.2 t_rowLong t_homes t_bestValue t_seen t_planMany t_text t_corners t_streets t_ends t_time t_leaders t_home t_feet)) (As := [.int (0 : Int32), .int ((t_corners (1 : Int32).toNatClampNeg) - (1 : Int32))]) (rest := [.int ((6 : Int32) + (t_leaders (1 : Int32).toNatClampNeg)), .ref a_t_home]) (st1 := [.int u3.1, .int ((6 : Int32) + (t_leaders (1 : Int32).toNatClampNeg)), .ref a_t_home]) S hK hA Wd (c_X10_number l D N cI cB cZ cM cJ cK a_t a_t_text a_t_corners a_t_streets a_t_ends a_t_time a_t_leaders a_t_home a_t_feet a_t_far a_t_now a_t_isKept a_t_tried a_t_row a_t_who a_t_then a_t_best a_t_seenAs a_t_seenAt a_t_plan t_trace t_typed t_at t_start t_sort t_value t_fault t_rowLong t_homes t_bestValue t_seen t_planMany t_text (0 : Int32) ((t_corners (1 : Int32).toNatClampNeg) - (1 : Int32))) (cwV 2 S.2.2.2.2 gX10_readRow_X10_number rfl rfl rfl n_X10_number ⟨Nat.le_of_ble_eq_true rfl, Nat.le_of_ble_eq_true rfl⟩) hu3 [0, 1] rfl rfl 0 10 rfl rfl rfl rfl rfl rfl rfl hl.1 rfl (Nat.le_of_ble_eq_true rfl) dX10_readRow_165 ⟨Nat.zero_le _, Nat.zero_le _⟩ (fun H locs Wd => ?_)
      obtain ⟨h4, hf⟩ := g_gi hF hf
      refine g_iast (a := a_t_home) (ws' := (wX10_readRow cI cB cZ cM cJ cK  a_t a_t_text a_t_corners a_t_streets a_t_ends a_t_time a_t_leaders a_t_home a_t_feet a_t_far a_t_now a_t_isKept a_t_tried a_t_row a_t_who a_t_then a_t_best a_t_seenAs a_t_seenAt a_t_plan t_trace t_typed u3.2.1 u3.2.2.1 u3.2.2.2.1 u3.2.2.2.2.1 u3.2.2.2.2.2 t_rowLong t_homes t_bestValue t_seen t_planMany t_text t_corners t_streets t_ends t_time t_leaders (upd t_home ((6 : Int32) + (t_leaders (1 : Int32).toNatClampNeg)).toNatClampNeg u3.1) t_feet)) S hK Wd 7 0 rfl rfl h4 dX10_readRow_168 rfl (fun H locs Wd => ?_)
      refine lv_aload_n S.1 S.2.1 dX10_readRow_169 rfl (lv_at hl 1 rfl) ?_
      refine g_get (a := a_t) S hK Wd iX10_readRow_X10 0 rfl rfl 9 rfl rfl kX10_readRow_9 rfl dX10_readRow_170 ?_
      refine lv_iload_n S.1 S.2.1 dX10_readRow_173 rfl (lv_at hl 0 rfl) ?_
      refine lv_aload_n S.1 S.2.1 dX10_readRow_174 rfl (lv_at hl 1 rfl) ?_
      refine lv_iconst (v := 1) S.1 S.2.1 dX10_readRow_175 (by decide) ?_
      refine lv_iconst (v := 5) S.1 S.2.1 dX10_readRow_176 (by decide) ?_
      obtain ⟨u5, hu5, hf⟩ := g_bind hF hf
      refine g_callV (ws' := (wX10_readRow cI cB cZ cM cJ cK  a_t a_t_text a_t_corners a_t_streets a_t_ends a_t_time a_t_leaders a_t_home a_t_feet a_t_far a_t_now a_t_isKept a_t_tried a_t_row a_t_who a_t_then a_t_best a_t_seenAs a_t_seenAt a_t_plan t_trace t_typed u5.2.1 u5.2.2.1 u5.2.2.2.1 u5.2.2.2.2.1 u5.2.2.2.2.2 t_rowLong t_homes t_bestValue t_seen t_planMany t_text t_corners t_streets t_ends t_time t_leaders (upd t_home ((6 : Int32) + (t_leaders (1 : Int32).toNatClampNeg)).toNatClampNeg u3.1) t_feet)) (As := [.int (1 : Int32), .int (5 : Int32)]) (rest := [.int ((6 : Int32) + (t_leaders (1 : Int32).toNatClampNeg)), .ref a_t_feet]) (st1 := [.int u5.1, .int ((6 : Int32) + (t_leaders (1 : Int32).toNatClampNeg)), .ref a_t_feet]) S hK hA Wd (c_X10_number l D N cI cB cZ cM cJ cK a_t a_t_text a_t_corners a_t_streets a_t_ends a_t_time a_t_leaders a_t_home a_t_feet a_t_far a_t_now a_t_isKept a_t_tried a_t_row a_t_who a_t_then a_t_best a_t_seenAs a_t_seenAt a_t_plan t_trace t_typed u3.2.1 u3.2.2.1 u3.2.2.2.1 u3.2.2.2.2.1 u3.2.2.2.2.2 t_rowLong t_homes t_bestValue t_seen t_planMany t_text (1 : Int32) (5 : Int32)) (cwV 2 S.2.2.2.2 gX10_readRow_X10_number rfl rfl rfl n_X10_number ⟨Nat.le_of_ble_eq_true rfl, Nat.le_of_ble_eq_true rfl⟩) hu5 [0, 1] rfl rfl 0 10 rfl rfl rfl rfl rfl rfl rfl hl.1 rfl (Nat.le_of_ble_eq_true rfl) dX10_readRow_177 ⟨Nat.zero_le _, Nat.zero_le _⟩ (fun H locs Wd => ?_)
      obtain ⟨h6, hf⟩ := g_gi hF hf
      refine g_iast (a := a_t_feet) (ws' := (wX10_readRow cI cB cZ cM cJ cK  a_t a_t_text a_t_corners a_t_streets a_t_ends a_t_time a_t_leaders a_t_home a_t_feet a_t_far a_t_now a_t_isKept a_t_tried a_t_row a_t_who a_t_then a_t_best a_t_seenAs a_t_seenAt a_t_plan t_trace t_typed u5.2.1 u5.2.2.1 u5.2.2.2.1 u5.2.2.2.2.1 u5.2.2.2.2.2 t_rowLong t_homes t_bestValue t_seen t_planMany t_text t_corners t_streets t_ends t_time t_leaders (upd t_home ((6 : Int32) + (t_leaders (1 : Int32).toNatClampNeg)).toNatClampNeg u3.1) (upd t_feet ((6 : Int32) + (t_leaders (1 : Int32).toNatClampNeg)).toNatClampNeg u5.1))) S hK Wd 8 0 rfl rfl h6 dX10_readRow_180 rfl (fun H locs Wd => ?_)
      refine lv_aload_n S.1 S.2.1 dX10_readRow_181 rfl (lv_at hl 1 rfl) ?_
      refine g_get (a := a_t) S hK Wd iX10_readRow_X10 0 rfl rfl 7 rfl rfl kX10_readRow_7 rfl dX10_readRow_182 ?_
      refine lv_iconst (v := 1) S.1 S.2.1 dX10_readRow_185 (by decide) ?_
      refine lv_dup2_11 S.1 S.2.1 dX10_readRow_186 rfl rfl ?_
      refine g_iald (a := a_t_leaders) S hK Wd 6 0 rfl rfl (show ¬ (((1 : Int32) < 0) ∨ 2 ≤ Int32.toNatClampNeg (1 : Int32)) from by decide) dX10_readRow_187 ?_
      refine lv_iconst (v := 1) S.1 S.2.1 dX10_readRow_188 (by decide) ?_
      refine lv_iadd S.1 S.2.1 dX10_readRow_189 ?_
      refine g_iast (a := a_t_leaders) (ws' := (wX10_readRow cI cB cZ cM cJ cK  a_t a_t_text a_t_corners a_t_streets a_t_ends a_t_time a_t_leaders a_t_home a_t_feet a_t_far a_t_now a_t_isKept a_t_tried a_t_row a_t_who a_t_then a_t_best a_t_seenAs a_t_seenAt a_t_plan t_trace t_typed u5.2.1 u5.2.2.1 u5.2.2.2.1 u5.2.2.2.2.1 u5.2.2.2.2.2 t_rowLong t_homes t_bestValue t_seen t_planMany t_text t_corners t_streets t_ends t_time (upd t_leaders (1 : Int32).toNatClampNeg ((t_leaders (1 : Int32).toNatClampNeg) + (1 : Int32))) (upd t_home ((6 : Int32) + (t_leaders (1 : Int32).toNatClampNeg)).toNatClampNeg u3.1) (upd t_feet ((6 : Int32) + (t_leaders (1 : Int32).toNatClampNeg)).toNatClampNeg u5.1))) S hK Wd 6 0 rfl rfl (show ¬ (((1 : Int32) < 0) ∨ 2 ≤ Int32.toNatClampNeg (1 : Int32)) from by decide) dX10_readRow_190 rfl (fun H locs Wd => ?_)
      exact g_vret S Wd hr hlk dX10_readRow_191 (u5.2.1, u5.2.2.1, u5.2.2.2.1, u5.2.2.2.2.1, u5.2.2.2.2.2, t_corners, t_streets, t_ends, t_time, (upd t_leaders (1 : Int32).toNatClampNeg ((t_leaders (1 : Int32).toNatClampNeg) + (1 : Int32))), (upd t_home ((6 : Int32) + (t_leaders (1 : Int32).toNatClampNeg)).toNatClampNeg u3.1), (upd t_feet ((6 : Int32) + (t_leaders (1 : Int32).toNatClampNeg)).toNatClampNeg u5.1)) hf rfl rfl
    · have hf := g_if hf c2
      refine lv_bipush (v := 12) S.1 S.2.1 dX10_readRow_28 (by decide) ?_
      refine lv_aload_n S.1 S.2.1 dX10_readRow_30 rfl (lv_at hl 0 rfl) ?_
      refine g_get (a := a_t) S hK Wd iX10_readRow_X10 0 rfl rfl 4 rfl rfl kX10_readRow_2 rfl dX10_readRow_31 ?_
      refine lv_iconst (v := 1) S.1 S.2.1 dX10_readRow_34 (by decide) ?_
      refine g_iald (a := a_t_streets) S hK Wd 3 0 rfl rfl (show ¬ (((1 : Int32) < 0) ∨ 2 ≤ Int32.toNatClampNeg (1 : Int32)) from by decide) dX10_readRow_35 ?_
      refine lv_iadd S.1 S.2.1 dX10_readRow_36 ?_
      refine lv_istore_n (lv' := [(2, .int ((12 : Int32) + (t_streets (1 : Int32).toNatClampNeg))), (0, .ref a_t), (1, .int x1)]) S.1 S.2.1 dX10_readRow_37 rfl hl (by decide) rfl (fun ls hl => ?_)
      refine lv_aload_n S.1 S.2.1 dX10_readRow_38 rfl (lv_at hl 1 rfl) ?_
      refine g_get (a := a_t) S hK Wd iX10_readRow_X10 0 rfl rfl 5 rfl rfl kX10_readRow_3 rfl dX10_readRow_39 ?_
      refine lv_iconst (v := 2) S.1 S.2.1 dX10_readRow_42 (by decide) ?_
      refine lv_iload_n S.1 S.2.1 dX10_readRow_43 rfl (lv_at hl 0 rfl) ?_
      refine lv_imul S.1 S.2.1 dX10_readRow_44 ?_
      refine lv_aload_n S.1 S.2.1 dX10_readRow_45 rfl (lv_at hl 1 rfl) ?_
      refine lv_iconst (v := 0) S.1 S.2.1 dX10_readRow_46 (by decide) ?_
      refine lv_aload_n S.1 S.2.1 dX10_readRow_47 rfl (lv_at hl 1 rfl) ?_
      refine g_get (a := a_t) S hK Wd iX10_readRow_X10 0 rfl rfl 3 rfl rfl kX10_readRow_1 rfl dX10_readRow_48 ?_
      refine lv_iconst (v := 1) S.1 S.2.1 dX10_readRow_51 (by decide) ?_
      refine g_iald (a := a_t_corners) S hK Wd 2 0 rfl rfl (show ¬ (((1 : Int32) < 0) ∨ 2 ≤ Int32.toNatClampNeg (1 : Int32)) from by decide) dX10_readRow_52 ?_
      refine lv_iconst (v := 1) S.1 S.2.1 dX10_readRow_53 (by decide) ?_
      refine lv_isub S.1 S.2.1 dX10_readRow_54 ?_
      obtain ⟨u7, hu7, hf⟩ := g_bind hF hf
      refine g_callV (ws' := (wX10_readRow cI cB cZ cM cJ cK  a_t a_t_text a_t_corners a_t_streets a_t_ends a_t_time a_t_leaders a_t_home a_t_feet a_t_far a_t_now a_t_isKept a_t_tried a_t_row a_t_who a_t_then a_t_best a_t_seenAs a_t_seenAt a_t_plan t_trace t_typed u7.2.1 u7.2.2.1 u7.2.2.2.1 u7.2.2.2.2.1 u7.2.2.2.2.2 t_rowLong t_homes t_bestValue t_seen t_planMany t_text t_corners t_streets t_ends t_time t_leaders t_home t_feet)) (As := [.int (0 : Int32), .int ((t_corners (1 : Int32).toNatClampNeg) - (1 : Int32))]) (rest := [.int ((2 : Int32) * ((12 : Int32) + (t_streets (1 : Int32).toNatClampNeg))), .ref a_t_ends]) (st1 := [.int u7.1, .int ((2 : Int32) * ((12 : Int32) + (t_streets (1 : Int32).toNatClampNeg))), .ref a_t_ends]) S hK hA Wd (c_X10_number l D N cI cB cZ cM cJ cK a_t a_t_text a_t_corners a_t_streets a_t_ends a_t_time a_t_leaders a_t_home a_t_feet a_t_far a_t_now a_t_isKept a_t_tried a_t_row a_t_who a_t_then a_t_best a_t_seenAs a_t_seenAt a_t_plan t_trace t_typed t_at t_start t_sort t_value t_fault t_rowLong t_homes t_bestValue t_seen t_planMany t_text (0 : Int32) ((t_corners (1 : Int32).toNatClampNeg) - (1 : Int32))) (cwV 2 S.2.2.2.2 gX10_readRow_X10_number rfl rfl rfl n_X10_number ⟨Nat.le_of_ble_eq_true rfl, Nat.le_of_ble_eq_true rfl⟩) hu7 [0, 1] rfl rfl 0 10 rfl rfl rfl rfl rfl rfl rfl hl.1 rfl (Nat.le_of_ble_eq_true rfl) dX10_readRow_55 ⟨Nat.zero_le _, Nat.zero_le _⟩ (fun H locs Wd => ?_)
      obtain ⟨h8, hf⟩ := g_gi hF hf
      refine g_iast (a := a_t_ends) (ws' := (wX10_readRow cI cB cZ cM cJ cK  a_t a_t_text a_t_corners a_t_streets a_t_ends a_t_time a_t_leaders a_t_home a_t_feet a_t_far a_t_now a_t_isKept a_t_tried a_t_row a_t_who a_t_then a_t_best a_t_seenAs a_t_seenAt a_t_plan t_trace t_typed u7.2.1 u7.2.2.1 u7.2.2.2.1 u7.2.2.2.2.1 u7.2.2.2.2.2 t_rowLong t_homes t_bestValue t_seen t_planMany t_text t_corners t_streets (upd t_ends ((2 : Int32) * ((12 : Int32) + (t_streets (1 : Int32).toNatClampNeg))).toNatClampNeg u7.1) t_time t_leaders t_home t_feet)) S hK Wd 4 0 rfl rfl h8 dX10_readRow_58 rfl (fun H locs Wd => ?_)
      refine lv_aload_n S.1 S.2.1 dX10_readRow_59 rfl (lv_at hl 1 rfl) ?_
      refine g_get (a := a_t) S hK Wd iX10_readRow_X10 0 rfl rfl 5 rfl rfl kX10_readRow_3 rfl dX10_readRow_60 ?_
      refine lv_iconst (v := 2) S.1 S.2.1 dX10_readRow_63 (by decide) ?_
      refine lv_iload_n S.1 S.2.1 dX10_readRow_64 rfl (lv_at hl 0 rfl) ?_
      refine lv_imul S.1 S.2.1 dX10_readRow_65 ?_
      refine lv_iconst (v := 1) S.1 S.2.1 dX10_readRow_66 (by decide) ?_
      refine lv_iadd S.1 S.2.1 dX10_readRow_67 ?_
      refine lv_aload_n S.1 S.2.1 dX10_readRow_68 rfl (lv_at hl 1 rfl) ?_
      refine lv_aload_n S.1 S.2.1 dX10_readRow_69 rfl (lv_at hl 1 rfl) ?_
      refine g_get (a := a_t) S hK Wd iX10_readRow_X10 0 rfl rfl 12 rfl rfl kX10_readRow_4 rfl dX10_readRow_70 ?_
      refine lv_iconst (v := 1) S.1 S.2.1 dX10_readRow_73 (by decide) ?_
      refine lv_icmp_ne (tgt := 109) S.1 S.2.1 dX10_readRow_74 rfl (fun c9 => ?_) (fun c9 => ?_)
      · have hf := g_ifn hf c9
        exact b109  u7.2.1 u7.2.2.1 u7.2.2.2.1 u7.2.2.2.2.1 u7.2.2.2.2.2 t_corners t_streets (upd t_ends ((2 : Int32) * ((12 : Int32) + (t_streets (1 : Int32).toNatClampNeg))).toNatClampNeg u7.1) t_time t_leaders t_home t_feet ((12 : Int32) + (t_streets (1 : Int32).toNatClampNeg)) (((2 : Int32) * ((12 : Int32) + (t_streets (1 : Int32).toNatClampNeg))) + (1 : Int32)) _ _ _ Wd (lv_sub hl [1, 0] rfl) hf
      · have hf := g_if hf c9
        refine lv_aload_n S.1 S.2.1 dX10_readRow_77 rfl (lv_at hl 1 rfl) ?_
        refine g_get (a := a_t) S hK Wd iX10_readRow_X10 0 rfl rfl 13 rfl rfl kX10_readRow_5 rfl dX10_readRow_78 ?_
        refine lv_aload_n S.1 S.2.1 dX10_readRow_81 rfl (lv_at hl 1 rfl) ?_
        refine g_get (a := a_t) S hK Wd iX10_readRow_X10 0 rfl rfl 3 rfl rfl kX10_readRow_1 rfl dX10_readRow_82 ?_
        refine lv_iconst (v := 1) S.1 S.2.1 dX10_readRow_85 (by decide) ?_
        refine g_iald (a := a_t_corners) S hK Wd 2 0 rfl rfl (show ¬ (((1 : Int32) < 0) ∨ 2 ≤ Int32.toNatClampNeg (1 : Int32)) from by decide) dX10_readRow_86 ?_
        refine lv_icmp_ge (tgt := 109) S.1 S.2.1 dX10_readRow_87 rfl (fun c10 => ?_) (fun c10 => ?_)
        · have hf := g_if hf c10
          exact b109  u7.2.1 u7.2.2.1 u7.2.2.2.1 u7.2.2.2.2.1 u7.2.2.2.2.2 t_corners t_streets (upd t_ends ((2 : Int32) * ((12 : Int32) + (t_streets (1 : Int32).toNatClampNeg))).toNatClampNeg u7.1) t_time t_leaders t_home t_feet ((12 : Int32) + (t_streets (1 : Int32).toNatClampNeg)) (((2 : Int32) * ((12 : Int32) + (t_streets (1 : Int32).toNatClampNeg))) + (1 : Int32)) _ _ _ Wd (lv_sub hl [1, 0] rfl) hf
        · have hf := g_ifn hf c10
          refine lv_aload_n S.1 S.2.1 dX10_readRow_90 rfl (lv_at hl 1 rfl) ?_
          refine g_get (a := a_t) S hK Wd iX10_readRow_X10 0 rfl rfl 13 rfl rfl kX10_readRow_5 rfl dX10_readRow_91 ?_
          refine lv_aload_n S.1 S.2.1 dX10_readRow_94 rfl (lv_at hl 1 rfl) ?_
          refine g_get (a := a_t) S hK Wd iX10_readRow_X10 0 rfl rfl 5 rfl rfl kX10_readRow_3 rfl dX10_readRow_95 ?_
          refine lv_iconst (v := 2) S.1 S.2.1 dX10_readRow_98 (by decide) ?_
          refine lv_iload_n S.1 S.2.1 dX10_readRow_99 rfl (lv_at hl 0 rfl) ?_
          refine lv_imul S.1 S.2.1 dX10_readRow_100 ?_
          obtain ⟨h11, hf⟩ := g_gi hF hf
          refine g_iald (a := a_t_ends) S hK Wd 4 0 rfl rfl h11 dX10_readRow_101 ?_
          refine lv_icmp_eq (tgt := 109) S.1 S.2.1 dX10_readRow_102 rfl (fun c12 => ?_) (fun c12 => ?_)
          · have hf := g_if hf c12
            exact b109  u7.2.1 u7.2.2.1 u7.2.2.2.1 u7.2.2.2.2.1 u7.2.2.2.2.2 t_corners t_streets (upd t_ends ((2 : Int32) * ((12 : Int32) + (t_streets (1 : Int32).toNatClampNeg))).toNatClampNeg u7.1) t_time t_leaders t_home t_feet ((12 : Int32) + (t_streets (1 : Int32).toNatClampNeg)) (((2 : Int32) * ((12 : Int32) + (t_streets (1 : Int32).toNatClampNeg))) + (1 : Int32)) _ _ _ Wd (lv_sub hl [1, 0] rfl) hf
          · have hf := g_ifn hf c12
            refine lv_iconst (v := 1) S.1 S.2.1 dX10_readRow_105 (by decide) ?_
            refine lv_goto (tgt := 110) S.1 S.2.1 dX10_readRow_106 rfl ?_
            exact b110  u7.2.1 u7.2.2.1 u7.2.2.2.1 u7.2.2.2.2.1 u7.2.2.2.2.2 t_corners t_streets (upd t_ends ((2 : Int32) * ((12 : Int32) + (t_streets (1 : Int32).toNatClampNeg))).toNatClampNeg u7.1) t_time t_leaders t_home t_feet ((12 : Int32) + (t_streets (1 : Int32).toNatClampNeg)) (1 : Int32) (((2 : Int32) * ((12 : Int32) + (t_streets (1 : Int32).toNatClampNeg))) + (1 : Int32)) _ _ _ Wd (lv_sub hl [1, 0] rfl) hf
  · have hf := g_if hf c1
    refine lv_aload_n S.1 S.2.1 dX10_readRow_6 rfl (lv_at hl 0 rfl) ?_
    refine g_get (a := a_t) S hK Wd iX10_readRow_X10 0 rfl rfl 3 rfl rfl kX10_readRow_1 rfl dX10_readRow_7 ?_
    refine lv_iconst (v := 1) S.1 S.2.1 dX10_readRow_10 (by decide) ?_
    refine lv_aload_n S.1 S.2.1 dX10_readRow_11 rfl (lv_at hl 0 rfl) ?_
    refine lv_iconst (v := 1) S.1 S.2.1 dX10_readRow_12 (by decide) ?_
    refine lv_bipush (v := 8) S.1 S.2.1 dX10_readRow_13 (by decide) ?_
    obtain ⟨u13, hu13, hf⟩ := g_bind hF hf
    refine g_callV (ws' := (wX10_readRow cI cB cZ cM cJ cK  a_t a_t_text a_t_corners a_t_streets a_t_ends a_t_time a_t_leaders a_t_home a_t_feet a_t_far a_t_now a_t_isKept a_t_tried a_t_row a_t_who a_t_then a_t_best a_t_seenAs a_t_seenAt a_t_plan t_trace t_typed u13.2.1 u13.2.2.1 u13.2.2.2.1 u13.2.2.2.2.1 u13.2.2.2.2.2 t_rowLong t_homes t_bestValue t_seen t_planMany t_text t_corners t_streets t_ends t_time t_leaders t_home t_feet)) (As := [.int (1 : Int32), .int (8 : Int32)]) (rest := [.int (1 : Int32), .ref a_t_corners]) (st1 := [.int u13.1, .int (1 : Int32), .ref a_t_corners]) S hK hA Wd (c_X10_number l D N cI cB cZ cM cJ cK a_t a_t_text a_t_corners a_t_streets a_t_ends a_t_time a_t_leaders a_t_home a_t_feet a_t_far a_t_now a_t_isKept a_t_tried a_t_row a_t_who a_t_then a_t_best a_t_seenAs a_t_seenAt a_t_plan t_trace t_typed t_at t_start t_sort t_value t_fault t_rowLong t_homes t_bestValue t_seen t_planMany t_text (1 : Int32) (8 : Int32)) (cwV 2 S.2.2.2.2 gX10_readRow_X10_number rfl rfl rfl n_X10_number ⟨Nat.le_of_ble_eq_true rfl, Nat.le_of_ble_eq_true rfl⟩) hu13 [0, 1] rfl rfl 0 10 rfl rfl rfl rfl rfl rfl rfl hl.1 rfl (Nat.le_of_ble_eq_true rfl) dX10_readRow_15 ⟨Nat.zero_le _, Nat.zero_le _⟩ (fun H locs Wd => ?_)
    refine g_iast (a := a_t_corners) (ws' := (wX10_readRow cI cB cZ cM cJ cK  a_t a_t_text a_t_corners a_t_streets a_t_ends a_t_time a_t_leaders a_t_home a_t_feet a_t_far a_t_now a_t_isKept a_t_tried a_t_row a_t_who a_t_then a_t_best a_t_seenAs a_t_seenAt a_t_plan t_trace t_typed u13.2.1 u13.2.2.1 u13.2.2.2.1 u13.2.2.2.2.1 u13.2.2.2.2.2 t_rowLong t_homes t_bestValue t_seen t_planMany t_text (upd t_corners (1 : Int32).toNatClampNeg u13.1) t_streets t_ends t_time t_leaders t_home t_feet)) S hK Wd 2 0 rfl rfl (show ¬ (((1 : Int32) < 0) ∨ 2 ≤ Int32.toNatClampNeg (1 : Int32)) from by decide) dX10_readRow_18 rfl (fun H locs Wd => ?_)
    refine lv_goto (tgt := 191) S.1 S.2.1 dX10_readRow_19 rfl ?_
    exact g_vret S Wd hr hlk dX10_readRow_191 (u13.2.1, u13.2.2.1, u13.2.2.2.1, u13.2.2.2.2.1, u13.2.2.2.2.2, (upd t_corners (1 : Int32).toNatClampNeg u13.1), t_streets, t_ends, t_time, t_leaders, t_home, t_feet) hf rfl rfl
def wX10_plain (cI cB cZ cM cJ cK : ClassId) (a_t a_t_text a_t_corners a_t_streets a_t_ends a_t_time a_t_leaders a_t_home a_t_feet a_t_far a_t_now a_t_isKept a_t_tried a_t_row a_t_who a_t_then a_t_best a_t_seenAs a_t_seenAt a_t_plan : Nat) (t_trace : Int64) (t_typed t_at t_start t_sort t_value t_fault t_rowLong t_homes t_bestValue t_seen t_planMany : Int32) (t_corners t_streets t_leaders : Nat → Int32) : List va_W := [[(a_t, .inr (10, [.long t_trace, .ref a_t_text, .int t_typed, .ref a_t_corners, .ref a_t_streets, .ref a_t_ends, .ref a_t_time, .ref a_t_leaders, .ref a_t_home, .ref a_t_feet, .int t_at, .int t_start, .int t_sort, .int t_value, .int t_fault, .ref a_t_far, .ref a_t_now, .ref a_t_isKept, .ref a_t_tried, .ref a_t_row, .int t_rowLong, .ref a_t_who, .ref a_t_then, .int t_homes, .ref a_t_best, .int t_bestValue, .ref a_t_seenAs, .ref a_t_seenAt, .int t_seen, .ref a_t_plan, .int t_planMany]))], [(a_t_corners, .inl (cI, 2, .inl t_corners))], [(a_t_streets, .inl (cI, 2, .inl t_streets))], [(a_t_leaders, .inl (cI, 2, .inl t_leaders))]]
def rmX10_plain : Room := { frames := 0, cells := 0, slots := 0, locals := 0 }
theorem kX10_plain_1 : Cond.fieldLink RX10 13 "FeastMarchModel" "corners" "[I" ∈ wsX10_plain := List.mem_of_getElem? (i := 1) rfl
theorem kX10_plain_2 : Cond.fieldLink RX10 17 "FeastMarchModel" "streets" "[I" ∈ wsX10_plain := List.mem_of_getElem? (i := 2) rfl
theorem kX10_plain_3 : Cond.fieldLink RX10 26 "FeastMarchModel" "leaders" "[I" ∈ wsX10_plain := List.mem_of_getElem? (i := 3) rfl
theorem iX10_plain_X10 : ∀ w ∈ wsX100, w ∈ wsX10_plain := fun _ h => List.mem_cons_of_mem _ (List.mem_append_right _ h)
theorem n_X10_plain : yX10_plain.cls = RX10 ∧ yX10_plain.cls ≠ "java/lang/invoke/MethodHandle" ∧ yX10_plain.cls ≠ "java/lang/invoke/VarHandle" ∧ (parseMethodDescriptor yX10_plain.desc).map (fun d => d.parameters.length) = some 0 := by decide +kernel
set_option maxHeartbeats 4000000 in
set_option maxRecDepth 100000 in
theorem c_X10_plain (l : Launch) (D : va_G) (N : Nat) (cI cB cZ cM cJ cK : ClassId) (a_t a_t_text a_t_corners a_t_streets a_t_ends a_t_time a_t_leaders a_t_home a_t_feet a_t_far a_t_now a_t_isKept a_t_tried a_t_row a_t_who a_t_then a_t_best a_t_seenAs a_t_seenAt a_t_plan : Nat) (t_trace : Int64) (t_typed t_at t_start t_sort t_value t_fault t_rowLong t_homes t_bestValue t_seen t_planMany : Int32) (t_corners t_streets t_leaders : Nat → Int32) : gM l yX10_plain wsX10_plain rmX10_plain D (gT cI cB cZ cM cJ cK) (wX10_plain cI cB cZ cM cJ cK  a_t a_t_text a_t_corners a_t_streets a_t_ends a_t_time a_t_leaders a_t_home a_t_feet a_t_far a_t_now a_t_isKept a_t_tried a_t_row a_t_who a_t_then a_t_best a_t_seenAs a_t_seenAt a_t_plan t_trace t_typed t_at t_start t_sort t_value t_fault t_rowLong t_homes t_bestValue t_seen t_planMany t_corners t_streets t_leaders) [.ref a_t] (fX10_plain N t_corners t_streets t_leaders) (fun _u : (Nat → Int32) × (Nat → Int32) × (Nat → Int32) => none) (fun _u : (Nat → Int32) × (Nat → Int32) × (Nat → Int32) => (wX10_plain cI cB cZ cM cJ cK  a_t a_t_text a_t_corners a_t_streets a_t_ends a_t_time a_t_leaders a_t_home a_t_feet a_t_far a_t_now a_t_isKept a_t_tried a_t_row a_t_who a_t_then a_t_best a_t_seenAs a_t_seenAt a_t_plan t_trace t_typed t_at t_start t_sort t_value t_fault t_rowLong t_homes t_bestValue t_seen t_planMany _u.1 _u.2.1 _u.2.2)) := by
  refine g_start (cc := cX10_plain) (maxL := 1) (ret := none) (by decide) rfl (Nat.le_of_ble_eq_true rfl) ?_
  intro F hf hF p e s m below meth c A ls S hK hA Wd hr hlk hnm hl
  refine lv_aload_n S.1 S.2.1 dX10_plain_0 rfl (lv_at hl 0 rfl) ?_
  refine g_get (a := a_t) S hK Wd iX10_plain_X10 0 rfl rfl 3 rfl rfl kX10_plain_1 rfl dX10_plain_1 ?_
  refine lv_iconst (v := 1) S.1 S.2.1 dX10_plain_4 (by decide) ?_
  refine lv_iconst (v := 0) S.1 S.2.1 dX10_plain_5 (by decide) ?_
  refine g_iast (a := a_t_corners) (ws' := (wX10_plain cI cB cZ cM cJ cK  a_t a_t_text a_t_corners a_t_streets a_t_ends a_t_time a_t_leaders a_t_home a_t_feet a_t_far a_t_now a_t_isKept a_t_tried a_t_row a_t_who a_t_then a_t_best a_t_seenAs a_t_seenAt a_t_plan t_trace t_typed t_at t_start t_sort t_value t_fault t_rowLong t_homes t_bestValue t_seen t_planMany (upd t_corners (1 : Int32).toNatClampNeg (0 : Int32)) t_streets t_leaders)) S hK Wd 1 0 rfl rfl (show ¬ (((1 : Int32) < 0) ∨ 2 ≤ Int32.toNatClampNeg (1 : Int32)) from by decide) dX10_plain_6 rfl (fun H locs Wd => ?_)
  refine lv_aload_n S.1 S.2.1 dX10_plain_7 rfl (lv_at hl 0 rfl) ?_
  refine g_get (a := a_t) S hK Wd iX10_plain_X10 0 rfl rfl 4 rfl rfl kX10_plain_2 rfl dX10_plain_8 ?_
  refine lv_iconst (v := 1) S.1 S.2.1 dX10_plain_11 (by decide) ?_
  refine lv_iconst (v := 0) S.1 S.2.1 dX10_plain_12 (by decide) ?_
  refine g_iast (a := a_t_streets) (ws' := (wX10_plain cI cB cZ cM cJ cK  a_t a_t_text a_t_corners a_t_streets a_t_ends a_t_time a_t_leaders a_t_home a_t_feet a_t_far a_t_now a_t_isKept a_t_tried a_t_row a_t_who a_t_then a_t_best a_t_seenAs a_t_seenAt a_t_plan t_trace t_typed t_at t_start t_sort t_value t_fault t_rowLong t_homes t_bestValue t_seen t_planMany (upd t_corners (1 : Int32).toNatClampNeg (0 : Int32)) (upd t_streets (1 : Int32).toNatClampNeg (0 : Int32)) t_leaders)) S hK Wd 2 0 rfl rfl (show ¬ (((1 : Int32) < 0) ∨ 2 ≤ Int32.toNatClampNeg (1 : Int32)) from by decide) dX10_plain_13 rfl (fun H locs Wd => ?_)
  refine lv_aload_n S.1 S.2.1 dX10_plain_14 rfl (lv_at hl 0 rfl) ?_
  refine g_get (a := a_t) S hK Wd iX10_plain_X10 0 rfl rfl 7 rfl rfl kX10_plain_3 rfl dX10_plain_15 ?_
  refine lv_iconst (v := 1) S.1 S.2.1 dX10_plain_18 (by decide) ?_
  refine lv_iconst (v := 0) S.1 S.2.1 dX10_plain_19 (by decide) ?_
  refine g_iast (a := a_t_leaders) (ws' := (wX10_plain cI cB cZ cM cJ cK  a_t a_t_text a_t_corners a_t_streets a_t_ends a_t_time a_t_leaders a_t_home a_t_feet a_t_far a_t_now a_t_isKept a_t_tried a_t_row a_t_who a_t_then a_t_best a_t_seenAs a_t_seenAt a_t_plan t_trace t_typed t_at t_start t_sort t_value t_fault t_rowLong t_homes t_bestValue t_seen t_planMany (upd t_corners (1 : Int32).toNatClampNeg (0 : Int32)) (upd t_streets (1 : Int32).toNatClampNeg (0 : Int32)) (upd t_leaders (1 : Int32).toNatClampNeg (0 : Int32)))) S hK Wd 3 0 rfl rfl (show ¬ (((1 : Int32) < 0) ∨ 2 ≤ Int32.toNatClampNeg (1 : Int32)) from by decide) dX10_plain_20 rfl (fun H locs Wd => ?_)
  exact g_vret S Wd hr hlk dX10_plain_21 ((upd t_corners (1 : Int32).toNatClampNeg (0 : Int32)), (upd t_streets (1 : Int32).toNatClampNeg (0 : Int32)), (upd t_leaders (1 : Int32).toNatClampNeg (0 : Int32))) hf rfl rfl
def wX10_measure (cI cB cZ cM cJ cK : ClassId) (a_t a_t_text a_t_corners a_t_streets a_t_ends a_t_time a_t_leaders a_t_home a_t_feet a_t_far a_t_now a_t_isKept a_t_tried a_t_row a_t_who a_t_then a_t_best a_t_seenAs a_t_seenAt a_t_plan : Nat) (t_trace : Int64) (t_typed t_at t_start t_sort t_value t_fault t_rowLong t_homes t_bestValue t_seen t_planMany : Int32) (t_streets t_ends t_time t_far : Nat → Int32) : List va_W := [[(a_t, .inr (10, [.long t_trace, .ref a_t_text, .int t_typed, .ref a_t_corners, .ref a_t_streets, .ref a_t_ends, .ref a_t_time, .ref a_t_leaders, .ref a_t_home, .ref a_t_feet, .int t_at, .int t_start, .int t_sort, .int t_value, .int t_fault, .ref a_t_far, .ref a_t_now, .ref a_t_isKept, .ref a_t_tried, .ref a_t_row, .int t_rowLong, .ref a_t_who, .ref a_t_then, .int t_homes, .ref a_t_best, .int t_bestValue, .ref a_t_seenAs, .ref a_t_seenAt, .int t_seen, .ref a_t_plan, .int t_planMany]))], [(a_t_streets, .inl (cI, 2, .inl t_streets))], [(a_t_ends, .inl (cI, 48, .inl t_ends))], [(a_t_time, .inl (cI, 24, .inl t_time))], [(a_t_far, .inl (cI, 64, .inl t_far))]]
def rmX10_measure : Room := { frames := 0, cells := 0, slots := 0, locals := 0 }
theorem kX10_measure_1 : Cond.fieldLink RX10 35 "FeastMarchModel" "far" "[I" ∈ wsX10_measure := List.mem_of_getElem? (i := 1) rfl
theorem kX10_measure_2 : Cond.fieldLink RX10 17 "FeastMarchModel" "streets" "[I" ∈ wsX10_measure := List.mem_of_getElem? (i := 2) rfl
theorem kX10_measure_3 : Cond.fieldLink RX10 20 "FeastMarchModel" "ends" "[I" ∈ wsX10_measure := List.mem_of_getElem? (i := 3) rfl
theorem kX10_measure_4 : Cond.fieldLink RX10 23 "FeastMarchModel" "time" "[I" ∈ wsX10_measure := List.mem_of_getElem? (i := 4) rfl
theorem iX10_measure_X10 : ∀ w ∈ wsX100, w ∈ wsX10_measure := fun _ h => List.mem_cons_of_mem _ (List.mem_append_right _ h)
theorem n_X10_measure : yX10_measure.cls = RX10 ∧ yX10_measure.cls ≠ "java/lang/invoke/MethodHandle" ∧ yX10_measure.cls ≠ "java/lang/invoke/VarHandle" ∧ (parseMethodDescriptor yX10_measure.desc).map (fun d => d.parameters.length) = some 0 := by decide +kernel
set_option maxHeartbeats 4000000 in
set_option maxRecDepth 100000 in
theorem c_X10_measure (l : Launch) (D : va_G) (N : Nat) (cI cB cZ cM cJ cK : ClassId) (a_t a_t_text a_t_corners a_t_streets a_t_ends a_t_time a_t_leaders a_t_home a_t_feet a_t_far a_t_now a_t_isKept a_t_tried a_t_row a_t_who a_t_then a_t_best a_t_seenAs a_t_seenAt a_t_plan : Nat) (t_trace : Int64) (t_typed t_at t_start t_sort t_value t_fault t_rowLong t_homes t_bestValue t_seen t_planMany : Int32) (t_streets t_ends t_time t_far : Nat → Int32) : gM l yX10_measure wsX10_measure rmX10_measure D (gT cI cB cZ cM cJ cK) (wX10_measure cI cB cZ cM cJ cK  a_t a_t_text a_t_corners a_t_streets a_t_ends a_t_time a_t_leaders a_t_home a_t_feet a_t_far a_t_now a_t_isKept a_t_tried a_t_row a_t_who a_t_then a_t_best a_t_seenAs a_t_seenAt a_t_plan t_trace t_typed t_at t_start t_sort t_value t_fault t_rowLong t_homes t_bestValue t_seen t_planMany t_streets t_ends t_time t_far) [.ref a_t] (fX10_measure N t_streets t_ends t_time t_far) (fun _u : (Nat → Int32) => none) (fun _u : (Nat → Int32) => (wX10_measure cI cB cZ cM cJ cK  a_t a_t_text a_t_corners a_t_streets a_t_ends a_t_time a_t_leaders a_t_home a_t_feet a_t_far a_t_now a_t_isKept a_t_tried a_t_row a_t_who a_t_then a_t_best a_t_seenAs a_t_seenAt a_t_plan t_trace t_typed t_at t_start t_sort t_value t_fault t_rowLong t_homes t_bestValue t_seen t_planMany t_streets t_ends t_time _u)) := by
  refine g_start (cc := cX10_measure) (maxL := 4) (ret := none) (by decide) rfl (Nat.le_of_ble_eq_true rfl) ?_
  intro F hf hF p e s m below meth c A ls S hK hA Wd hr hlk hnm hl
  have b30 : ∀ (K2 : (Nat → Int32) → Int32 → Option ((Nat → Int32))) (hK2 : ∀ (t_far : Nat → Int32) (x1 : Int32) (H1 : Heap) (locs1 : List Loc) (ls1 : Array Slot), gw D A s.heap (wX10_measure cI cB cZ cM cJ cK  a_t a_t_text a_t_corners a_t_streets a_t_ends a_t_time a_t_leaders a_t_home a_t_feet a_t_far a_t_now a_t_isKept a_t_tried a_t_row a_t_who a_t_then a_t_best a_t_seenAs a_t_seenAt a_t_plan t_trace t_typed t_at t_start t_sort t_value t_fault t_rowLong t_homes t_bestValue t_seen t_planMany t_streets t_ends t_time t_far) H1 locs1 → lv_has ls1 4 [(0, .ref a_t), (1, .int x1)] → F = K2 t_far x1 → W p l e rmX10_measure s m [.ref a_t].toArray below meth c H1 locs1 0 0 (MQ below (gQ F (fun _u : (Nat → Int32) => none) (fun _u : (Nat → Int32) => (wX10_measure cI cB cZ cM cJ cK  a_t a_t_text a_t_corners a_t_streets a_t_ends a_t_time a_t_leaders a_t_home a_t_feet a_t_far a_t_now a_t_isKept a_t_tried a_t_row a_t_who a_t_then a_t_best a_t_seenAs a_t_seenAt a_t_plan t_trace t_typed t_at t_start t_sort t_value t_fault t_rowLong t_homes t_bestValue t_seen t_planMany t_streets t_ends t_time _u)) D A) [.ref a_t].toArray s 0 0 A) (F0 m 2 ls1 [])) , ∀ (t_far : Nat → Int32) (x1 y0 y1 : Int32) (H1 : Heap) (locs1 : List Loc) (ls1 : Array Slot), gw D A s.heap (wX10_measure cI cB cZ cM cJ cK  a_t a_t_text a_t_corners a_t_streets a_t_ends a_t_time a_t_leaders a_t_home a_t_feet a_t_far a_t_now a_t_isKept a_t_tried a_t_row a_t_who a_t_then a_t_best a_t_seenAs a_t_seenAt a_t_plan t_trace t_typed t_at t_start t_sort t_value t_fault t_rowLong t_homes t_bestValue t_seen t_planMany t_streets t_ends t_time t_far) H1 locs1 → lv_has ls1 4 [(0, .ref a_t), (1, .int x1)] → F = fX10_measure_b30 N t_streets t_ends t_time K2 t_far x1 y0 y1 → W p l e rmX10_measure s m [.ref a_t].toArray below meth c H1 locs1 0 0 (MQ below (gQ F (fun _u : (Nat → Int32) => none) (fun _u : (Nat → Int32) => (wX10_measure cI cB cZ cM cJ cK  a_t a_t_text a_t_corners a_t_streets a_t_ends a_t_time a_t_leaders a_t_home a_t_feet a_t_far a_t_now a_t_isKept a_t_tried a_t_row a_t_who a_t_then a_t_best a_t_seenAs a_t_seenAt a_t_plan t_trace t_typed t_at t_start t_sort t_value t_fault t_rowLong t_homes t_bestValue t_seen t_planMany t_streets t_ends t_time _u)) D A) [.ref a_t].toArray s 0 0 A) (F0 m 30 ls1 [.int y0, .int y1, .ref a_t_far]) := by
    intro K2 hK2 t_far x1 y0 y1 H locs ls Wd hl hf
    obtain ⟨h3, hf⟩ := g_gi hF hf
    refine g_iast (a := a_t_far) (ws' := (wX10_measure cI cB cZ cM cJ cK  a_t a_t_text a_t_corners a_t_streets a_t_ends a_t_time a_t_leaders a_t_home a_t_feet a_t_far a_t_now a_t_isKept a_t_tried a_t_row a_t_who a_t_then a_t_best a_t_seenAs a_t_seenAt a_t_plan t_trace t_typed t_at t_start t_sort t_value t_fault t_rowLong t_homes t_bestValue t_seen t_planMany t_streets t_ends t_time (upd t_far y1.toNatClampNeg y0))) S hK Wd 4 0 rfl rfl h3 dX10_measure_30 rfl (fun H locs Wd => ?_)
    refine lv_iinc (v := (x1 + (1 : Int32))) (lv' := [(1, .int (x1 + (1 : Int32))), (0, .ref a_t)]) S.1 S.2.1 dX10_measure_31 hl (k := 1) rfl rfl (by decide) rfl (fun ls hl => ?_)
    refine lv_goto (tgt := 2) S.1 S.2.1 dX10_measure_34 rfl ?_
    exact hK2 (upd t_far y1.toNatClampNeg y0) (x1 + (1 : Int32)) _ _ _ Wd (lv_sub hl [1, 0] rfl) hf
  have b130 : ∀ (K39 : (Nat → Int32) → Int32 → Option ((Nat → Int32))) (hK39 : ∀ (t_far : Nat → Int32) (x1 : Int32) (H1 : Heap) (locs1 : List Loc) (ls1 : Array Slot), gw D A s.heap (wX10_measure cI cB cZ cM cJ cK  a_t a_t_text a_t_corners a_t_streets a_t_ends a_t_time a_t_leaders a_t_home a_t_feet a_t_far a_t_now a_t_isKept a_t_tried a_t_row a_t_who a_t_then a_t_best a_t_seenAs a_t_seenAt a_t_plan t_trace t_typed t_at t_start t_sort t_value t_fault t_rowLong t_homes t_bestValue t_seen t_planMany t_streets t_ends t_time t_far) H1 locs1 → lv_has ls1 4 [(0, .ref a_t), (1, .int x1)] → F = K39 t_far x1 → W p l e rmX10_measure s m [.ref a_t].toArray below meth c H1 locs1 0 0 (MQ below (gQ F (fun _u : (Nat → Int32) => none) (fun _u : (Nat → Int32) => (wX10_measure cI cB cZ cM cJ cK  a_t a_t_text a_t_corners a_t_streets a_t_ends a_t_time a_t_leaders a_t_home a_t_feet a_t_far a_t_now a_t_isKept a_t_tried a_t_row a_t_who a_t_then a_t_best a_t_seenAs a_t_seenAt a_t_plan t_trace t_typed t_at t_start t_sort t_value t_fault t_rowLong t_homes t_bestValue t_seen t_planMany t_streets t_ends t_time _u)) D A) [.ref a_t].toArray s 0 0 A) (F0 m 39 ls1 [])) , ∀ (t_far : Nat → Int32) (x1 x2 x3 y0 y1 : Int32) (H1 : Heap) (locs1 : List Loc) (ls1 : Array Slot), gw D A s.heap (wX10_measure cI cB cZ cM cJ cK  a_t a_t_text a_t_corners a_t_streets a_t_ends a_t_time a_t_leaders a_t_home a_t_feet a_t_far a_t_now a_t_isKept a_t_tried a_t_row a_t_who a_t_then a_t_best a_t_seenAs a_t_seenAt a_t_plan t_trace t_typed t_at t_start t_sort t_value t_fault t_rowLong t_homes t_bestValue t_seen t_planMany t_streets t_ends t_time t_far) H1 locs1 → lv_has ls1 4 [(0, .ref a_t), (1, .int x1), (2, .int x2), (3, .int x3)] → F = fX10_measure_b130 N t_streets t_ends t_time K39 t_far x1 x2 x3 y0 y1 → W p l e rmX10_measure s m [.ref a_t].toArray below meth c H1 locs1 0 0 (MQ below (gQ F (fun _u : (Nat → Int32) => none) (fun _u : (Nat → Int32) => (wX10_measure cI cB cZ cM cJ cK  a_t a_t_text a_t_corners a_t_streets a_t_ends a_t_time a_t_leaders a_t_home a_t_feet a_t_far a_t_now a_t_isKept a_t_tried a_t_row a_t_who a_t_then a_t_best a_t_seenAs a_t_seenAt a_t_plan t_trace t_typed t_at t_start t_sort t_value t_fault t_rowLong t_homes t_bestValue t_seen t_planMany t_streets t_ends t_time _u)) D A) [.ref a_t].toArray s 0 0 A) (F0 m 130 ls1 [.int y0, .int y1, .ref a_t_far]) := by
    intro K39 hK39 t_far x1 x2 x3 y0 y1 H locs ls Wd hl hf
    obtain ⟨h14, hf⟩ := g_gi hF hf
    refine g_iast (a := a_t_far) (ws' := (wX10_measure cI cB cZ cM cJ cK  a_t a_t_text a_t_corners a_t_streets a_t_ends a_t_time a_t_leaders a_t_home a_t_feet a_t_far a_t_now a_t_isKept a_t_tried a_t_row a_t_who a_t_then a_t_best a_t_seenAs a_t_seenAt a_t_plan t_trace t_typed t_at t_start t_sort t_value t_fault t_rowLong t_homes t_bestValue t_seen t_planMany t_streets t_ends t_time (upd t_far y1.toNatClampNeg y0))) S hK Wd 4 0 rfl rfl h14 dX10_measure_130 rfl (fun H locs Wd => ?_)
    refine lv_aload_n S.1 S.2.1 dX10_measure_131 rfl (lv_at hl 0 rfl) ?_
    refine g_get (a := a_t) S hK Wd iX10_measure_X10 0 rfl rfl 15 rfl rfl kX10_measure_1 rfl dX10_measure_132 ?_
    refine lv_iload_n S.1 S.2.1 dX10_measure_135 rfl (lv_at hl 3 rfl) ?_
    refine lv_aload_n S.1 S.2.1 dX10_measure_136 rfl (lv_at hl 0 rfl) ?_
    refine g_get (a := a_t) S hK Wd iX10_measure_X10 0 rfl rfl 15 rfl rfl kX10_measure_1 rfl dX10_measure_137 ?_
    refine lv_iload_n S.1 S.2.1 dX10_measure_140 rfl (lv_at hl 2 rfl) ?_
    obtain ⟨h15, hf⟩ := g_gi hF hf
    refine g_iald (a := a_t_far) S hK Wd 4 0 rfl rfl h15 dX10_measure_141 ?_
    obtain ⟨h16, hf⟩ := g_gi hF hf
    refine g_iast (a := a_t_far) (ws' := (wX10_measure cI cB cZ cM cJ cK  a_t a_t_text a_t_corners a_t_streets a_t_ends a_t_time a_t_leaders a_t_home a_t_feet a_t_far a_t_now a_t_isKept a_t_tried a_t_row a_t_who a_t_then a_t_best a_t_seenAs a_t_seenAt a_t_plan t_trace t_typed t_at t_start t_sort t_value t_fault t_rowLong t_homes t_bestValue t_seen t_planMany t_streets t_ends t_time (upd (upd t_far y1.toNatClampNeg y0) x3.toNatClampNeg ((upd t_far y1.toNatClampNeg y0) x2.toNatClampNeg)))) S hK Wd 4 0 rfl rfl h16 dX10_measure_142 rfl (fun H locs Wd => ?_)
    refine lv_iinc (v := (x1 + (1 : Int32))) (lv' := [(1, .int (x1 + (1 : Int32))), (0, .ref a_t), (2, .int x2), (3, .int x3)]) S.1 S.2.1 dX10_measure_143 hl (k := 1) rfl rfl (by decide) rfl (fun ls hl => ?_)
    refine lv_goto (tgt := 39) S.1 S.2.1 dX10_measure_146 rfl ?_
    exact hK39 (upd (upd t_far y1.toNatClampNeg y0) x3.toNatClampNeg ((upd t_far y1.toNatClampNeg y0) x2.toNatClampNeg)) (x1 + (1 : Int32)) _ _ _ Wd (lv_sub hl [1, 0] rfl) hf
  have b220 : ∀ (K151 : (Nat → Int32) → Int32 → Option ((Nat → Int32))) (hK151 : ∀ (t_far : Nat → Int32) (x1 : Int32) (H1 : Heap) (locs1 : List Loc) (ls1 : Array Slot), gw D A s.heap (wX10_measure cI cB cZ cM cJ cK  a_t a_t_text a_t_corners a_t_streets a_t_ends a_t_time a_t_leaders a_t_home a_t_feet a_t_far a_t_now a_t_isKept a_t_tried a_t_row a_t_who a_t_then a_t_best a_t_seenAs a_t_seenAt a_t_plan t_trace t_typed t_at t_start t_sort t_value t_fault t_rowLong t_homes t_bestValue t_seen t_planMany t_streets t_ends t_time t_far) H1 locs1 → lv_has ls1 4 [(0, .ref a_t), (1, .int x1)] → F = K151 t_far x1 → W p l e rmX10_measure s m [.ref a_t].toArray below meth c H1 locs1 0 0 (MQ below (gQ F (fun _u : (Nat → Int32) => none) (fun _u : (Nat → Int32) => (wX10_measure cI cB cZ cM cJ cK  a_t a_t_text a_t_corners a_t_streets a_t_ends a_t_time a_t_leaders a_t_home a_t_feet a_t_far a_t_now a_t_isKept a_t_tried a_t_row a_t_who a_t_then a_t_best a_t_seenAs a_t_seenAt a_t_plan t_trace t_typed t_at t_start t_sort t_value t_fault t_rowLong t_homes t_bestValue t_seen t_planMany t_streets t_ends t_time _u)) D A) [.ref a_t].toArray s 0 0 A) (F0 m 151 ls1 [])) (K159 : (Nat → Int32) → Int32 → Int32 → Option ((Nat → Int32))) (hK159 : ∀ (t_far : Nat → Int32) (x1 x2 : Int32) (H1 : Heap) (locs1 : List Loc) (ls1 : Array Slot), gw D A s.heap (wX10_measure cI cB cZ cM cJ cK  a_t a_t_text a_t_corners a_t_streets a_t_ends a_t_time a_t_leaders a_t_home a_t_feet a_t_far a_t_now a_t_isKept a_t_tried a_t_row a_t_who a_t_then a_t_best a_t_seenAs a_t_seenAt a_t_plan t_trace t_typed t_at t_start t_sort t_value t_fault t_rowLong t_homes t_bestValue t_seen t_planMany t_streets t_ends t_time t_far) H1 locs1 → lv_has ls1 4 [(0, .ref a_t), (1, .int x1), (2, .int x2)] → F = K159 t_far x1 x2 → W p l e rmX10_measure s m [.ref a_t].toArray below meth c H1 locs1 0 0 (MQ below (gQ F (fun _u : (Nat → Int32) => none) (fun _u : (Nat → Int32) => (wX10_measure cI cB cZ cM cJ cK  a_t a_t_text a_t_corners a_t_streets a_t_ends a_t_time a_t_leaders a_t_home a_t_feet a_t_far a_t_now a_t_isKept a_t_tried a_t_row a_t_who a_t_then a_t_best a_t_seenAs a_t_seenAt a_t_plan t_trace t_typed t_at t_start t_sort t_value t_fault t_rowLong t_homes t_bestValue t_seen t_planMany t_streets t_ends t_time _u)) D A) [.ref a_t].toArray s 0 0 A) (F0 m 159 ls1 [])) , ∀ (t_far : Nat → Int32) (x1 x2 y0 y1 : Int32) (H1 : Heap) (locs1 : List Loc) (ls1 : Array Slot), gw D A s.heap (wX10_measure cI cB cZ cM cJ cK  a_t a_t_text a_t_corners a_t_streets a_t_ends a_t_time a_t_leaders a_t_home a_t_feet a_t_far a_t_now a_t_isKept a_t_tried a_t_row a_t_who a_t_then a_t_best a_t_seenAs a_t_seenAt a_t_plan t_trace t_typed t_at t_start t_sort t_value t_fault t_rowLong t_homes t_bestValue t_seen t_planMany t_streets t_ends t_time t_far) H1 locs1 → lv_has ls1 4 [(0, .ref a_t), (1, .int x1), (2, .int x2)] → F = fX10_measure_b220 N t_streets t_ends t_time K151 K159 t_far x1 x2 y0 y1 → W p l e rmX10_measure s m [.ref a_t].toArray below meth c H1 locs1 0 0 (MQ below (gQ F (fun _u : (Nat → Int32) => none) (fun _u : (Nat → Int32) => (wX10_measure cI cB cZ cM cJ cK  a_t a_t_text a_t_corners a_t_streets a_t_ends a_t_time a_t_leaders a_t_home a_t_feet a_t_far a_t_now a_t_isKept a_t_tried a_t_row a_t_who a_t_then a_t_best a_t_seenAs a_t_seenAt a_t_plan t_trace t_typed t_at t_start t_sort t_value t_fault t_rowLong t_homes t_bestValue t_seen t_planMany t_streets t_ends t_time _u)) D A) [.ref a_t].toArray s 0 0 A) (F0 m 220 ls1 [.int y0, .int y1, .ref a_t_far]) := by
    intro K151 hK151 K159 hK159 t_far x1 x2 y0 y1 H locs ls Wd hl hf
    obtain ⟨h24, hf⟩ := g_gi hF hf
    refine g_iast (a := a_t_far) (ws' := (wX10_measure cI cB cZ cM cJ cK  a_t a_t_text a_t_corners a_t_streets a_t_ends a_t_time a_t_leaders a_t_home a_t_feet a_t_far a_t_now a_t_isKept a_t_tried a_t_row a_t_who a_t_then a_t_best a_t_seenAs a_t_seenAt a_t_plan t_trace t_typed t_at t_start t_sort t_value t_fault t_rowLong t_homes t_bestValue t_seen t_planMany t_streets t_ends t_time (upd t_far y1.toNatClampNeg y0))) S hK Wd 4 0 rfl rfl h24 dX10_measure_220 rfl (fun H locs Wd => ?_)
    refine lv_iinc (v := (x2 + (1 : Int32))) (lv' := [(2, .int (x2 + (1 : Int32))), (0, .ref a_t), (1, .int x1)]) S.1 S.2.1 dX10_measure_221 hl (k := 2) rfl rfl (by decide) rfl (fun ls hl => ?_)
    refine lv_goto (tgt := 159) S.1 S.2.1 dX10_measure_224 rfl ?_
    exact hK159 (upd t_far y1.toNatClampNeg y0) x1 (x2 + (1 : Int32)) _ _ _ Wd (lv_sub hl [1, 2, 0] rfl) hf
  have b159 : ∀ (K151 : (Nat → Int32) → Int32 → Option ((Nat → Int32))) (hK151 : ∀ (t_far : Nat → Int32) (x1 : Int32) (H1 : Heap) (locs1 : List Loc) (ls1 : Array Slot), gw D A s.heap (wX10_measure cI cB cZ cM cJ cK  a_t a_t_text a_t_corners a_t_streets a_t_ends a_t_time a_t_leaders a_t_home a_t_feet a_t_far a_t_now a_t_isKept a_t_tried a_t_row a_t_who a_t_then a_t_best a_t_seenAs a_t_seenAt a_t_plan t_trace t_typed t_at t_start t_sort t_value t_fault t_rowLong t_homes t_bestValue t_seen t_planMany t_streets t_ends t_time t_far) H1 locs1 → lv_has ls1 4 [(0, .ref a_t), (1, .int x1)] → F = K151 t_far x1 → W p l e rmX10_measure s m [.ref a_t].toArray below meth c H1 locs1 0 0 (MQ below (gQ F (fun _u : (Nat → Int32) => none) (fun _u : (Nat → Int32) => (wX10_measure cI cB cZ cM cJ cK  a_t a_t_text a_t_corners a_t_streets a_t_ends a_t_time a_t_leaders a_t_home a_t_feet a_t_far a_t_now a_t_isKept a_t_tried a_t_row a_t_who a_t_then a_t_best a_t_seenAs a_t_seenAt a_t_plan t_trace t_typed t_at t_start t_sort t_value t_fault t_rowLong t_homes t_bestValue t_seen t_planMany t_streets t_ends t_time _u)) D A) [.ref a_t].toArray s 0 0 A) (F0 m 151 ls1 [])) (n : Nat), ∀ (t_far : Nat → Int32) (x1 x2 : Int32) (H1 : Heap) (locs1 : List Loc) (ls1 : Array Slot), gw D A s.heap (wX10_measure cI cB cZ cM cJ cK  a_t a_t_text a_t_corners a_t_streets a_t_ends a_t_time a_t_leaders a_t_home a_t_feet a_t_far a_t_now a_t_isKept a_t_tried a_t_row a_t_who a_t_then a_t_best a_t_seenAs a_t_seenAt a_t_plan t_trace t_typed t_at t_start t_sort t_value t_fault t_rowLong t_homes t_bestValue t_seen t_planMany t_streets t_ends t_time t_far) H1 locs1 → lv_has ls1 4 [(0, .ref a_t), (1, .int x1), (2, .int x2)] → F = fX10_measure_b159 N t_streets t_ends t_time K151 n t_far x1 x2 → W p l e rmX10_measure s m [.ref a_t].toArray below meth c H1 locs1 0 0 (MQ below (gQ F (fun _u : (Nat → Int32) => none) (fun _u : (Nat → Int32) => (wX10_measure cI cB cZ cM cJ cK  a_t a_t_text a_t_corners a_t_streets a_t_ends a_t_time a_t_leaders a_t_home a_t_feet a_t_far a_t_now a_t_isKept a_t_tried a_t_row a_t_who a_t_then a_t_best a_t_seenAs a_t_seenAt a_t_plan t_trace t_typed t_at t_start t_sort t_value t_fault t_rowLong t_homes t_bestValue t_seen t_planMany t_streets t_ends t_time _u)) D A) [.ref a_t].toArray s 0 0 A) (F0 m 159 ls1 []) := by
    intro K151 hK151 n
    induction n with
    | zero => intro t_far x1 x2 H locs ls Wd hl hf; exact absurd hf hF
    | succ n ih =>
      intro t_far x1 x2 H locs ls Wd hl hf
      refine lv_iload_n S.1 S.2.1 dX10_measure_159 rfl (lv_at hl 2 rfl) ?_
      refine lv_bipush (v := 64) S.1 S.2.1 dX10_measure_160 (by decide) ?_
      refine lv_icmp_ge (tgt := 227) S.1 S.2.1 dX10_measure_162 rfl (fun c18 => ?_) (fun c18 => ?_)
      · have hf := g_if hf c18
        refine lv_iinc (v := (x1 + (1 : Int32))) (lv' := [(1, .int (x1 + (1 : Int32))), (0, .ref a_t), (2, .int x2)]) S.1 S.2.1 dX10_measure_227 hl (k := 1) rfl rfl (by decide) rfl (fun ls hl => ?_)
        refine lv_goto (tgt := 151) S.1 S.2.1 dX10_measure_230 rfl ?_
        exact hK151 t_far (x1 + (1 : Int32)) _ _ _ Wd (lv_sub hl [1, 0] rfl) hf
      · have hf := g_ifn hf c18
        refine lv_aload_n S.1 S.2.1 dX10_measure_165 rfl (lv_at hl 0 rfl) ?_
        refine g_get (a := a_t) S hK Wd iX10_measure_X10 0 rfl rfl 15 rfl rfl kX10_measure_1 rfl dX10_measure_166 ?_
        refine lv_bipush (v := 8) S.1 S.2.1 dX10_measure_169 (by decide) ?_
        refine lv_iload_n S.1 S.2.1 dX10_measure_171 rfl (lv_at hl 2 rfl) ?_
        refine lv_bipush (v := 8) S.1 S.2.1 dX10_measure_172 (by decide) ?_
        refine lv_idiv S.1 S.2.1 dX10_measure_174 (by decide) ?_
        refine lv_imul S.1 S.2.1 dX10_measure_175 ?_
        refine lv_iload_n S.1 S.2.1 dX10_measure_176 rfl (lv_at hl 1 rfl) ?_
        refine lv_iadd S.1 S.2.1 dX10_measure_177 ?_
        obtain ⟨h19, hf⟩ := g_gi hF hf
        refine g_iald (a := a_t_far) S hK Wd 4 0 rfl rfl h19 dX10_measure_178 ?_
        refine lv_aload_n S.1 S.2.1 dX10_measure_179 rfl (lv_at hl 0 rfl) ?_
        refine g_get (a := a_t) S hK Wd iX10_measure_X10 0 rfl rfl 15 rfl rfl kX10_measure_1 rfl dX10_measure_180 ?_
        refine lv_bipush (v := 8) S.1 S.2.1 dX10_measure_183 (by decide) ?_
        refine lv_iload_n S.1 S.2.1 dX10_measure_185 rfl (lv_at hl 1 rfl) ?_
        refine lv_imul S.1 S.2.1 dX10_measure_186 ?_
        refine lv_iload_n S.1 S.2.1 dX10_measure_187 rfl (lv_at hl 2 rfl) ?_
        refine lv_bipush (v := 8) S.1 S.2.1 dX10_measure_188 (by decide) ?_
        refine lv_irem S.1 S.2.1 dX10_measure_190 (by decide) ?_
        refine lv_iadd S.1 S.2.1 dX10_measure_191 ?_
        obtain ⟨h20, hf⟩ := g_gi hF hf
        refine g_iald (a := a_t_far) S hK Wd 4 0 rfl rfl h20 dX10_measure_192 ?_
        refine lv_iadd S.1 S.2.1 dX10_measure_193 ?_
        refine lv_istore_n (lv' := [(3, .int ((t_far (((8 : Int32) * (x2 / (8 : Int32))) + x1).toNatClampNeg) + (t_far (((8 : Int32) * x1) + (x2 - x2 / (8 : Int32) * (8 : Int32))).toNatClampNeg))), (0, .ref a_t), (1, .int x1), (2, .int x2)]) S.1 S.2.1 dX10_measure_194 rfl hl (by decide) rfl (fun ls hl => ?_)
        refine lv_aload_n S.1 S.2.1 dX10_measure_195 rfl (lv_at hl 1 rfl) ?_
        refine g_get (a := a_t) S hK Wd iX10_measure_X10 0 rfl rfl 15 rfl rfl kX10_measure_1 rfl dX10_measure_196 ?_
        refine lv_iload_n S.1 S.2.1 dX10_measure_199 rfl (lv_at hl 3 rfl) ?_
        refine lv_iload_n S.1 S.2.1 dX10_measure_200 rfl (lv_at hl 0 rfl) ?_
        refine lv_aload_n S.1 S.2.1 dX10_measure_201 rfl (lv_at hl 1 rfl) ?_
        refine g_get (a := a_t) S hK Wd iX10_measure_X10 0 rfl rfl 15 rfl rfl kX10_measure_1 rfl dX10_measure_202 ?_
        refine lv_iload_n S.1 S.2.1 dX10_measure_205 rfl (lv_at hl 3 rfl) ?_
        obtain ⟨h21, hf⟩ := g_gi hF hf
        refine g_iald (a := a_t_far) S hK Wd 4 0 rfl rfl h21 dX10_measure_206 ?_
        refine lv_icmp_ge (tgt := 214) S.1 S.2.1 dX10_measure_207 rfl (fun c22 => ?_) (fun c22 => ?_)
        · have hf := g_if hf c22
          refine lv_aload_n S.1 S.2.1 dX10_measure_214 rfl (lv_at hl 1 rfl) ?_
          refine g_get (a := a_t) S hK Wd iX10_measure_X10 0 rfl rfl 15 rfl rfl kX10_measure_1 rfl dX10_measure_215 ?_
          refine lv_iload_n S.1 S.2.1 dX10_measure_218 rfl (lv_at hl 3 rfl) ?_
          obtain ⟨h23, hf⟩ := g_gi hF hf
          refine g_iald (a := a_t_far) S hK Wd 4 0 rfl rfl h23 dX10_measure_219 ?_
          exact b220 K151 hK151 (fun t_far x1 x2 => fX10_measure_b159 N t_streets t_ends t_time K151 n t_far x1 x2) ih t_far x1 x2 (t_far x2.toNatClampNeg) x2 _ _ _ Wd (lv_sub hl [1, 2, 3] rfl) hf
        · have hf := g_ifn hf c22
          refine lv_iload_n S.1 S.2.1 dX10_measure_210 rfl (lv_at hl 0 rfl) ?_
          refine lv_goto (tgt := 220) S.1 S.2.1 dX10_measure_211 rfl ?_
          exact b220 K151 hK151 (fun t_far x1 x2 => fX10_measure_b159 N t_streets t_ends t_time K151 n t_far x1 x2) ih t_far x1 x2 ((t_far (((8 : Int32) * (x2 / (8 : Int32))) + x1).toNatClampNeg) + (t_far (((8 : Int32) * x1) + (x2 - x2 / (8 : Int32) * (8 : Int32))).toNatClampNeg)) x2 _ _ _ Wd (lv_sub hl [1, 2, 3] rfl) hf
  have b151 : ∀ (n : Nat), ∀ (t_far : Nat → Int32) (x1 : Int32) (H1 : Heap) (locs1 : List Loc) (ls1 : Array Slot), gw D A s.heap (wX10_measure cI cB cZ cM cJ cK  a_t a_t_text a_t_corners a_t_streets a_t_ends a_t_time a_t_leaders a_t_home a_t_feet a_t_far a_t_now a_t_isKept a_t_tried a_t_row a_t_who a_t_then a_t_best a_t_seenAs a_t_seenAt a_t_plan t_trace t_typed t_at t_start t_sort t_value t_fault t_rowLong t_homes t_bestValue t_seen t_planMany t_streets t_ends t_time t_far) H1 locs1 → lv_has ls1 4 [(0, .ref a_t), (1, .int x1)] → F = fX10_measure_b151 N t_streets t_ends t_time  n t_far x1 → W p l e rmX10_measure s m [.ref a_t].toArray below meth c H1 locs1 0 0 (MQ below (gQ F (fun _u : (Nat → Int32) => none) (fun _u : (Nat → Int32) => (wX10_measure cI cB cZ cM cJ cK  a_t a_t_text a_t_corners a_t_streets a_t_ends a_t_time a_t_leaders a_t_home a_t_feet a_t_far a_t_now a_t_isKept a_t_tried a_t_row a_t_who a_t_then a_t_best a_t_seenAs a_t_seenAt a_t_plan t_trace t_typed t_at t_start t_sort t_value t_fault t_rowLong t_homes t_bestValue t_seen t_planMany t_streets t_ends t_time _u)) D A) [.ref a_t].toArray s 0 0 A) (F0 m 151 ls1 []) := by
    intro  n
    induction n with
    | zero => intro t_far x1 H locs ls Wd hl hf; exact absurd hf hF
    | succ n ih =>
      intro t_far x1 H locs ls Wd hl hf
      refine lv_iload_n S.1 S.2.1 dX10_measure_151 rfl (lv_at hl 1 rfl) ?_
      refine lv_bipush (v := 8) S.1 S.2.1 dX10_measure_152 (by decide) ?_
      refine lv_icmp_ge (tgt := 233) S.1 S.2.1 dX10_measure_154 rfl (fun c17 => ?_) (fun c17 => ?_)
      · have hf := g_if hf c17
        exact g_vret S Wd hr hlk dX10_measure_233 t_far hf rfl rfl
      · have hf := g_ifn hf c17
        refine lv_iconst (v := 0) S.1 S.2.1 dX10_measure_157 (by decide) ?_
        refine lv_istore_n (lv' := [(2, .int (0 : Int32)), (0, .ref a_t), (1, .int x1)]) S.1 S.2.1 dX10_measure_158 rfl hl (by decide) rfl (fun ls hl => ?_)
        exact b159 (fun t_far x1 => fX10_measure_b151 N t_streets t_ends t_time n t_far x1) ih N t_far x1 (0 : Int32) _ _ _ Wd (lv_sub hl [1, 2, 0] rfl) hf
  have b39 : ∀ (n : Nat), ∀ (t_far : Nat → Int32) (x1 : Int32) (H1 : Heap) (locs1 : List Loc) (ls1 : Array Slot), gw D A s.heap (wX10_measure cI cB cZ cM cJ cK  a_t a_t_text a_t_corners a_t_streets a_t_ends a_t_time a_t_leaders a_t_home a_t_feet a_t_far a_t_now a_t_isKept a_t_tried a_t_row a_t_who a_t_then a_t_best a_t_seenAs a_t_seenAt a_t_plan t_trace t_typed t_at t_start t_sort t_value t_fault t_rowLong t_homes t_bestValue t_seen t_planMany t_streets t_ends t_time t_far) H1 locs1 → lv_has ls1 4 [(0, .ref a_t), (1, .int x1)] → F = fX10_measure_b39 N t_streets t_ends t_time  n t_far x1 → W p l e rmX10_measure s m [.ref a_t].toArray below meth c H1 locs1 0 0 (MQ below (gQ F (fun _u : (Nat → Int32) => none) (fun _u : (Nat → Int32) => (wX10_measure cI cB cZ cM cJ cK  a_t a_t_text a_t_corners a_t_streets a_t_ends a_t_time a_t_leaders a_t_home a_t_feet a_t_far a_t_now a_t_isKept a_t_tried a_t_row a_t_who a_t_then a_t_best a_t_seenAs a_t_seenAt a_t_plan t_trace t_typed t_at t_start t_sort t_value t_fault t_rowLong t_homes t_bestValue t_seen t_planMany t_streets t_ends t_time _u)) D A) [.ref a_t].toArray s 0 0 A) (F0 m 39 ls1 []) := by
    intro  n
    induction n with
    | zero => intro t_far x1 H locs ls Wd hl hf; exact absurd hf hF
    | succ n ih =>
      intro t_far x1 H locs ls Wd hl hf
      refine lv_iload_n S.1 S.2.1 dX10_measure_39 rfl (lv_at hl 1 rfl) ?_
      refine lv_aload_n S.1 S.2.1 dX10_measure_40 rfl (lv_at hl 0 rfl) ?_
      refine g_get (a := a_t) S hK Wd iX10_measure_X10 0 rfl rfl 4 rfl rfl kX10_measure_2 rfl dX10_measure_41 ?_
      refine lv_iconst (v := 0) S.1 S.2.1 dX10_measure_44 (by decide) ?_
      refine g_iald (a := a_t_streets) S hK Wd 1 0 rfl rfl (show ¬ (((0 : Int32) < 0) ∨ 2 ≤ Int32.toNatClampNeg (0 : Int32)) from by decide) dX10_measure_45 ?_
      refine lv_icmp_ge (tgt := 149) S.1 S.2.1 dX10_measure_46 rfl (fun c4 => ?_) (fun c4 => ?_)
      · have hf := g_if hf c4
        refine lv_iconst (v := 0) S.1 S.2.1 dX10_measure_149 (by decide) ?_
        refine lv_istore_n (lv' := [(1, .int (0 : Int32)), (0, .ref a_t)]) S.1 S.2.1 dX10_measure_150 rfl hl (by decide) rfl (fun ls hl => ?_)
        exact b151  N t_far (0 : Int32) _ _ _ Wd (lv_sub hl [1, 0] rfl) hf
      · have hf := g_ifn hf c4
        refine lv_bipush (v := 8) S.1 S.2.1 dX10_measure_49 (by decide) ?_
        refine lv_aload_n S.1 S.2.1 dX10_measure_51 rfl (lv_at hl 0 rfl) ?_
        refine g_get (a := a_t) S hK Wd iX10_measure_X10 0 rfl rfl 5 rfl rfl kX10_measure_3 rfl dX10_measure_52 ?_
        refine lv_iconst (v := 2) S.1 S.2.1 dX10_measure_55 (by decide) ?_
        refine lv_iload_n S.1 S.2.1 dX10_measure_56 rfl (lv_at hl 1 rfl) ?_
        refine lv_imul S.1 S.2.1 dX10_measure_57 ?_
        obtain ⟨h5, hf⟩ := g_gi hF hf
        refine g_iald (a := a_t_ends) S hK Wd 2 0 rfl rfl h5 dX10_measure_58 ?_
        refine lv_imul S.1 S.2.1 dX10_measure_59 ?_
        refine lv_aload_n S.1 S.2.1 dX10_measure_60 rfl (lv_at hl 0 rfl) ?_
        refine g_get (a := a_t) S hK Wd iX10_measure_X10 0 rfl rfl 5 rfl rfl kX10_measure_3 rfl dX10_measure_61 ?_
        refine lv_iconst (v := 2) S.1 S.2.1 dX10_measure_64 (by decide) ?_
        refine lv_iload_n S.1 S.2.1 dX10_measure_65 rfl (lv_at hl 1 rfl) ?_
        refine lv_imul S.1 S.2.1 dX10_measure_66 ?_
        refine lv_iconst (v := 1) S.1 S.2.1 dX10_measure_67 (by decide) ?_
        refine lv_iadd S.1 S.2.1 dX10_measure_68 ?_
        obtain ⟨h6, hf⟩ := g_gi hF hf
        refine g_iald (a := a_t_ends) S hK Wd 2 0 rfl rfl h6 dX10_measure_69 ?_
        refine lv_iadd S.1 S.2.1 dX10_measure_70 ?_
        refine lv_istore_n (lv' := [(2, .int (((8 : Int32) * (t_ends ((2 : Int32) * x1).toNatClampNeg)) + (t_ends (((2 : Int32) * x1) + (1 : Int32)).toNatClampNeg))), (0, .ref a_t), (1, .int x1)]) S.1 S.2.1 dX10_measure_71 rfl hl (by decide) rfl (fun ls hl => ?_)
        refine lv_bipush (v := 8) S.1 S.2.1 dX10_measure_72 (by decide) ?_
        refine lv_aload_n S.1 S.2.1 dX10_measure_74 rfl (lv_at hl 1 rfl) ?_
        refine g_get (a := a_t) S hK Wd iX10_measure_X10 0 rfl rfl 5 rfl rfl kX10_measure_3 rfl dX10_measure_75 ?_
        refine lv_iconst (v := 2) S.1 S.2.1 dX10_measure_78 (by decide) ?_
        refine lv_iload_n S.1 S.2.1 dX10_measure_79 rfl (lv_at hl 2 rfl) ?_
        refine lv_imul S.1 S.2.1 dX10_measure_80 ?_
        refine lv_iconst (v := 1) S.1 S.2.1 dX10_measure_81 (by decide) ?_
        refine lv_iadd S.1 S.2.1 dX10_measure_82 ?_
        obtain ⟨h7, hf⟩ := g_gi hF hf
        refine g_iald (a := a_t_ends) S hK Wd 2 0 rfl rfl h7 dX10_measure_83 ?_
        refine lv_imul S.1 S.2.1 dX10_measure_84 ?_
        refine lv_aload_n S.1 S.2.1 dX10_measure_85 rfl (lv_at hl 1 rfl) ?_
        refine g_get (a := a_t) S hK Wd iX10_measure_X10 0 rfl rfl 5 rfl rfl kX10_measure_3 rfl dX10_measure_86 ?_
        refine lv_iconst (v := 2) S.1 S.2.1 dX10_measure_89 (by decide) ?_
        refine lv_iload_n S.1 S.2.1 dX10_measure_90 rfl (lv_at hl 2 rfl) ?_
        refine lv_imul S.1 S.2.1 dX10_measure_91 ?_
        obtain ⟨h8, hf⟩ := g_gi hF hf
        refine g_iald (a := a_t_ends) S hK Wd 2 0 rfl rfl h8 dX10_measure_92 ?_
        refine lv_iadd S.1 S.2.1 dX10_measure_93 ?_
        refine lv_istore_n (lv' := [(3, .int (((8 : Int32) * (t_ends (((2 : Int32) * x1) + (1 : Int32)).toNatClampNeg)) + (t_ends ((2 : Int32) * x1).toNatClampNeg))), (2, .int (((8 : Int32) * (t_ends ((2 : Int32) * x1).toNatClampNeg)) + (t_ends (((2 : Int32) * x1) + (1 : Int32)).toNatClampNeg))), (0, .ref a_t), (1, .int x1)]) S.1 S.2.1 dX10_measure_94 rfl hl (by decide) rfl (fun ls hl => ?_)
        refine lv_aload_n S.1 S.2.1 dX10_measure_95 rfl (lv_at hl 2 rfl) ?_
        refine g_get (a := a_t) S hK Wd iX10_measure_X10 0 rfl rfl 15 rfl rfl kX10_measure_1 rfl dX10_measure_96 ?_
        refine lv_iload_n S.1 S.2.1 dX10_measure_99 rfl (lv_at hl 1 rfl) ?_
        refine lv_aload_n S.1 S.2.1 dX10_measure_100 rfl (lv_at hl 2 rfl) ?_
        refine g_get (a := a_t) S hK Wd iX10_measure_X10 0 rfl rfl 6 rfl rfl kX10_measure_4 rfl dX10_measure_101 ?_
        refine lv_iload_n S.1 S.2.1 dX10_measure_104 rfl (lv_at hl 3 rfl) ?_
        obtain ⟨h9, hf⟩ := g_gi hF hf
        refine g_iald (a := a_t_time) S hK Wd 3 0 rfl rfl h9 dX10_measure_105 ?_
        refine lv_aload_n S.1 S.2.1 dX10_measure_106 rfl (lv_at hl 2 rfl) ?_
        refine g_get (a := a_t) S hK Wd iX10_measure_X10 0 rfl rfl 15 rfl rfl kX10_measure_1 rfl dX10_measure_107 ?_
        refine lv_iload_n S.1 S.2.1 dX10_measure_110 rfl (lv_at hl 1 rfl) ?_
        obtain ⟨h10, hf⟩ := g_gi hF hf
        refine g_iald (a := a_t_far) S hK Wd 4 0 rfl rfl h10 dX10_measure_111 ?_
        refine lv_icmp_ge (tgt := 124) S.1 S.2.1 dX10_measure_112 rfl (fun c11 => ?_) (fun c11 => ?_)
        · have hf := g_if hf c11
          refine lv_aload_n S.1 S.2.1 dX10_measure_124 rfl (lv_at hl 2 rfl) ?_
          refine g_get (a := a_t) S hK Wd iX10_measure_X10 0 rfl rfl 15 rfl rfl kX10_measure_1 rfl dX10_measure_125 ?_
          refine lv_iload_n S.1 S.2.1 dX10_measure_128 rfl (lv_at hl 1 rfl) ?_
          obtain ⟨h12, hf⟩ := g_gi hF hf
          refine g_iald (a := a_t_far) S hK Wd 4 0 rfl rfl h12 dX10_measure_129 ?_
          exact b130 (fun t_far x1 => fX10_measure_b39 N t_streets t_ends t_time n t_far x1) ih t_far x1 (((8 : Int32) * (t_ends ((2 : Int32) * x1).toNatClampNeg)) + (t_ends (((2 : Int32) * x1) + (1 : Int32)).toNatClampNeg)) (((8 : Int32) * (t_ends (((2 : Int32) * x1) + (1 : Int32)).toNatClampNeg)) + (t_ends ((2 : Int32) * x1).toNatClampNeg)) (t_far (((8 : Int32) * (t_ends ((2 : Int32) * x1).toNatClampNeg)) + (t_ends (((2 : Int32) * x1) + (1 : Int32)).toNatClampNeg)).toNatClampNeg) (((8 : Int32) * (t_ends ((2 : Int32) * x1).toNatClampNeg)) + (t_ends (((2 : Int32) * x1) + (1 : Int32)).toNatClampNeg)) _ _ _ Wd (lv_sub hl [2, 3, 1, 0] rfl) hf
        · have hf := g_ifn hf c11
          refine lv_aload_n S.1 S.2.1 dX10_measure_115 rfl (lv_at hl 2 rfl) ?_
          refine g_get (a := a_t) S hK Wd iX10_measure_X10 0 rfl rfl 6 rfl rfl kX10_measure_4 rfl dX10_measure_116 ?_
          refine lv_iload_n S.1 S.2.1 dX10_measure_119 rfl (lv_at hl 3 rfl) ?_
          obtain ⟨h13, hf⟩ := g_gi hF hf
          refine g_iald (a := a_t_time) S hK Wd 3 0 rfl rfl h13 dX10_measure_120 ?_
          refine lv_goto (tgt := 130) S.1 S.2.1 dX10_measure_121 rfl ?_
          exact b130 (fun t_far x1 => fX10_measure_b39 N t_streets t_ends t_time n t_far x1) ih t_far x1 (((8 : Int32) * (t_ends ((2 : Int32) * x1).toNatClampNeg)) + (t_ends (((2 : Int32) * x1) + (1 : Int32)).toNatClampNeg)) (((8 : Int32) * (t_ends (((2 : Int32) * x1) + (1 : Int32)).toNatClampNeg)) + (t_ends ((2 : Int32) * x1).toNatClampNeg)) (t_time x1.toNatClampNeg) (((8 : Int32) * (t_ends ((2 : Int32) * x1).toNatClampNeg)) + (t_ends (((2 : Int32) * x1) + (1 : Int32)).toNatClampNeg)) _ _ _ Wd (lv_sub hl [2, 3, 1, 0] rfl) hf
  have b2 : ∀ (n : Nat), ∀ (t_far : Nat → Int32) (x1 : Int32) (H1 : Heap) (locs1 : List Loc) (ls1 : Array Slot), gw D A s.heap (wX10_measure cI cB cZ cM cJ cK  a_t a_t_text a_t_corners a_t_streets a_t_ends a_t_time a_t_leaders a_t_home a_t_feet a_t_far a_t_now a_t_isKept a_t_tried a_t_row a_t_who a_t_then a_t_best a_t_seenAs a_t_seenAt a_t_plan t_trace t_typed t_at t_start t_sort t_value t_fault t_rowLong t_homes t_bestValue t_seen t_planMany t_streets t_ends t_time t_far) H1 locs1 → lv_has ls1 4 [(0, .ref a_t), (1, .int x1)] → F = fX10_measure_b2 N t_streets t_ends t_time  n t_far x1 → W p l e rmX10_measure s m [.ref a_t].toArray below meth c H1 locs1 0 0 (MQ below (gQ F (fun _u : (Nat → Int32) => none) (fun _u : (Nat → Int32) => (wX10_measure cI cB cZ cM cJ cK  a_t a_t_text a_t_corners a_t_streets a_t_ends a_t_time a_t_leaders a_t_home a_t_feet a_t_far a_t_now a_t_isKept a_t_tried a_t_row a_t_who a_t_then a_t_best a_t_seenAs a_t_seenAt a_t_plan t_trace t_typed t_at t_start t_sort t_value t_fault t_rowLong t_homes t_bestValue t_seen t_planMany t_streets t_ends t_time _u)) D A) [.ref a_t].toArray s 0 0 A) (F0 m 2 ls1 []) := by
    intro  n
    induction n with
    | zero => intro t_far x1 H locs ls Wd hl hf; exact absurd hf hF
    | succ n ih =>
      intro t_far x1 H locs ls Wd hl hf
      refine lv_iload_n S.1 S.2.1 dX10_measure_2 rfl (lv_at hl 1 rfl) ?_
      refine lv_bipush (v := 64) S.1 S.2.1 dX10_measure_3 (by decide) ?_
      refine lv_icmp_ge (tgt := 37) S.1 S.2.1 dX10_measure_5 rfl (fun c1 => ?_) (fun c1 => ?_)
      · have hf := g_if hf c1
        refine lv_iconst (v := 0) S.1 S.2.1 dX10_measure_37 (by decide) ?_
        refine lv_istore_n (lv' := [(1, .int (0 : Int32)), (0, .ref a_t)]) S.1 S.2.1 dX10_measure_38 rfl hl (by decide) rfl (fun ls hl => ?_)
        exact b39  N t_far (0 : Int32) _ _ _ Wd (lv_sub hl [1, 0] rfl) hf
      · have hf := g_ifn hf c1
        refine lv_aload_n S.1 S.2.1 dX10_measure_8 rfl (lv_at hl 0 rfl) ?_
        refine g_get (a := a_t) S hK Wd iX10_measure_X10 0 rfl rfl 15 rfl rfl kX10_measure_1 rfl dX10_measure_9 ?_
        refine lv_iload_n S.1 S.2.1 dX10_measure_12 rfl (lv_at hl 1 rfl) ?_
        refine lv_iload_n S.1 S.2.1 dX10_measure_13 rfl (lv_at hl 1 rfl) ?_
        refine lv_bipush (v := 8) S.1 S.2.1 dX10_measure_14 (by decide) ?_
        refine lv_idiv S.1 S.2.1 dX10_measure_16 (by decide) ?_
        refine lv_iload_n S.1 S.2.1 dX10_measure_17 rfl (lv_at hl 1 rfl) ?_
        refine lv_bipush (v := 8) S.1 S.2.1 dX10_measure_18 (by decide) ?_
        refine lv_irem S.1 S.2.1 dX10_measure_20 (by decide) ?_
        refine lv_icmp_ne (tgt := 28) S.1 S.2.1 dX10_measure_21 rfl (fun c2 => ?_) (fun c2 => ?_)
        · have hf := g_ifn hf c2
          refine lv_bipush (v := 99) S.1 S.2.1 dX10_measure_28 (by decide) ?_
          exact b30 (fun t_far x1 => fX10_measure_b2 N t_streets t_ends t_time n t_far x1) ih t_far x1 (99 : Int32) x1 _ _ _ Wd hl hf
        · have hf := g_if hf c2
          refine lv_iconst (v := 0) S.1 S.2.1 dX10_measure_24 (by decide) ?_
          refine lv_goto (tgt := 30) S.1 S.2.1 dX10_measure_25 rfl ?_
          exact b30 (fun t_far x1 => fX10_measure_b2 N t_streets t_ends t_time n t_far x1) ih t_far x1 (0 : Int32) x1 _ _ _ Wd hl hf
  refine lv_iconst (v := 0) S.1 S.2.1 dX10_measure_0 (by decide) ?_
  refine lv_istore_n (lv' := [(1, .int (0 : Int32)), (0, .ref a_t)]) S.1 S.2.1 dX10_measure_1 rfl hl (by decide) rfl (fun ls hl => ?_)
  exact b2  N t_far (0 : Int32) _ _ _ Wd (lv_sub hl [1, 0] rfl) hf
def wX10_takeDraft (cI cB cZ cM cJ cK : ClassId) (a_t a_t_text a_t_corners a_t_streets a_t_ends a_t_time a_t_leaders a_t_home a_t_feet a_t_far a_t_now a_t_isKept a_t_tried a_t_row a_t_who a_t_then a_t_best a_t_seenAs a_t_seenAt a_t_plan : Nat) (t_trace : Int64) (t_typed t_at t_start t_sort t_value t_fault t_rowLong t_homes t_bestValue t_seen t_planMany : Int32) (t_corners t_streets t_ends t_time t_leaders t_home t_feet t_far t_now t_isKept : Nat → Int32) : List va_W := [[(a_t, .inr (10, [.long t_trace, .ref a_t_text, .int t_typed, .ref a_t_corners, .ref a_t_streets, .ref a_t_ends, .ref a_t_time, .ref a_t_leaders, .ref a_t_home, .ref a_t_feet, .int t_at, .int t_start, .int t_sort, .int t_value, .int t_fault, .ref a_t_far, .ref a_t_now, .ref a_t_isKept, .ref a_t_tried, .ref a_t_row, .int t_rowLong, .ref a_t_who, .ref a_t_then, .int t_homes, .ref a_t_best, .int t_bestValue, .ref a_t_seenAs, .ref a_t_seenAt, .int t_seen, .ref a_t_plan, .int t_planMany]))], [(a_t_corners, .inl (cI, 2, .inl t_corners))], [(a_t_streets, .inl (cI, 2, .inl t_streets))], [(a_t_ends, .inl (cI, 48, .inl t_ends))], [(a_t_time, .inl (cI, 24, .inl t_time))], [(a_t_leaders, .inl (cI, 2, .inl t_leaders))], [(a_t_home, .inl (cI, 12, .inl t_home))], [(a_t_feet, .inl (cI, 12, .inl t_feet))], [(a_t_far, .inl (cI, 64, .inl t_far))], [(a_t_now, .inl (cI, 564, .inl t_now))], [(a_t_isKept, .inl (cZ, 2, .inl t_isKept))]]
def rmX10_takeDraft : Room := { frames := 1, cells := 0, slots := 0, locals := 23 }
theorem kX10_takeDraft_1 : Cond.fieldLink RX10 13 "FeastMarchModel" "corners" "[I" ∈ wsX10_takeDraft := List.mem_of_getElem? (i := 1) rfl
theorem kX10_takeDraft_10 : Cond.fieldLink RX10 119 "FeastMarchModel" "planMany" "I" ∈ wsX10_takeDraft := List.mem_of_getElem? (i := 10) rfl
theorem kX10_takeDraft_11 : Cond.fieldLink RX10 41 "FeastMarchModel" "isKept" "[Z" ∈ wsX10_takeDraft := List.mem_of_getElem? (i := 11) rfl
theorem kX10_takeDraft_2 : Cond.fieldLink RX10 17 "FeastMarchModel" "streets" "[I" ∈ wsX10_takeDraft := List.mem_of_getElem? (i := 2) rfl
theorem kX10_takeDraft_3 : Cond.fieldLink RX10 26 "FeastMarchModel" "leaders" "[I" ∈ wsX10_takeDraft := List.mem_of_getElem? (i := 3) rfl
theorem kX10_takeDraft_4 : Cond.fieldLink RX10 20 "FeastMarchModel" "ends" "[I" ∈ wsX10_takeDraft := List.mem_of_getElem? (i := 4) rfl
theorem kX10_takeDraft_5 : Cond.fieldLink RX10 23 "FeastMarchModel" "time" "[I" ∈ wsX10_takeDraft := List.mem_of_getElem? (i := 5) rfl
theorem kX10_takeDraft_6 : Cond.fieldLink RX10 29 "FeastMarchModel" "home" "[I" ∈ wsX10_takeDraft := List.mem_of_getElem? (i := 6) rfl
theorem kX10_takeDraft_7 : Cond.fieldLink RX10 32 "FeastMarchModel" "feet" "[I" ∈ wsX10_takeDraft := List.mem_of_getElem? (i := 7) rfl
theorem kX10_takeDraft_8 : Cond.fieldLink RX10 38 "FeastMarchModel" "now" "[I" ∈ wsX10_takeDraft := List.mem_of_getElem? (i := 8) rfl
theorem kX10_takeDraft_9 : Cond.fieldLink RX10 116 "FeastMarchModel" "seen" "I" ∈ wsX10_takeDraft := List.mem_of_getElem? (i := 9) rfl
theorem iX10_takeDraft_X10 : ∀ w ∈ wsX100, w ∈ wsX10_takeDraft := fun _ h => List.mem_cons_of_mem _ (List.mem_append_right _ h)
theorem n_X10_takeDraft : yX10_takeDraft.cls = RX10 ∧ yX10_takeDraft.cls ≠ "java/lang/invoke/MethodHandle" ∧ yX10_takeDraft.cls ≠ "java/lang/invoke/VarHandle" ∧ (parseMethodDescriptor yX10_takeDraft.desc).map (fun d => d.parameters.length) = some 0 := by decide +kernel
set_option maxHeartbeats 4000000 in
set_option maxRecDepth 100000 in
theorem c_X10_takeDraft (l : Launch) (D : va_G) (N : Nat) (cI cB cZ cM cJ cK : ClassId) (a_t a_t_text a_t_corners a_t_streets a_t_ends a_t_time a_t_leaders a_t_home a_t_feet a_t_far a_t_now a_t_isKept a_t_tried a_t_row a_t_who a_t_then a_t_best a_t_seenAs a_t_seenAt a_t_plan : Nat) (t_trace : Int64) (t_typed t_at t_start t_sort t_value t_fault t_rowLong t_homes t_bestValue t_seen t_planMany : Int32) (t_corners t_streets t_ends t_time t_leaders t_home t_feet t_far t_now t_isKept : Nat → Int32) : gM l yX10_takeDraft wsX10_takeDraft rmX10_takeDraft D (gT cI cB cZ cM cJ cK) (wX10_takeDraft cI cB cZ cM cJ cK  a_t a_t_text a_t_corners a_t_streets a_t_ends a_t_time a_t_leaders a_t_home a_t_feet a_t_far a_t_now a_t_isKept a_t_tried a_t_row a_t_who a_t_then a_t_best a_t_seenAs a_t_seenAt a_t_plan t_trace t_typed t_at t_start t_sort t_value t_fault t_rowLong t_homes t_bestValue t_seen t_planMany t_corners t_streets t_ends t_time t_leaders t_home t_feet t_far t_now t_isKept) [.ref a_t] (fX10_takeDraft N t_seen t_planMany t_corners t_streets t_ends t_time t_leaders t_home t_feet t_far t_now t_isKept) (fun _u : Int32 × Int32 × (Nat → Int32) × (Nat → Int32) × (Nat → Int32) × (Nat → Int32) × (Nat → Int32) × (Nat → Int32) × (Nat → Int32) × (Nat → Int32) × (Nat → Int32) × (Nat → Int32) => none) (fun _u : Int32 × Int32 × (Nat → Int32) × (Nat → Int32) × (Nat → Int32) × (Nat → Int32) × (Nat → Int32) × (Nat → Int32) × (Nat → Int32) × (Nat → Int32) × (Nat → Int32) × (Nat → Int32) => (wX10_takeDraft cI cB cZ cM cJ cK  a_t a_t_text a_t_corners a_t_streets a_t_ends a_t_time a_t_leaders a_t_home a_t_feet a_t_far a_t_now a_t_isKept a_t_tried a_t_row a_t_who a_t_then a_t_best a_t_seenAs a_t_seenAt a_t_plan t_trace t_typed t_at t_start t_sort t_value t_fault t_rowLong t_homes t_bestValue _u.1 _u.2.1 _u.2.2.1 _u.2.2.2.1 _u.2.2.2.2.1 _u.2.2.2.2.2.1 _u.2.2.2.2.2.2.1 _u.2.2.2.2.2.2.2.1 _u.2.2.2.2.2.2.2.2.1 _u.2.2.2.2.2.2.2.2.2.1 _u.2.2.2.2.2.2.2.2.2.2.1 _u.2.2.2.2.2.2.2.2.2.2.2)) := by
  refine g_start (cc := cX10_takeDraft) (maxL := 2) (ret := none) (by decide) rfl (Nat.le_of_ble_eq_true rfl) ?_
  intro F hf hF p e s m below meth c A ls S hK hA Wd hr hlk hnm hl
  have b144 : ∀ (n : Nat), ∀ (t_seen t_planMany : Int32) (t_corners t_streets t_ends t_time t_leaders t_home t_feet t_far t_now t_isKept : Nat → Int32) (x1 : Int32) (H1 : Heap) (locs1 : List Loc) (ls1 : Array Slot), gw D A s.heap (wX10_takeDraft cI cB cZ cM cJ cK  a_t a_t_text a_t_corners a_t_streets a_t_ends a_t_time a_t_leaders a_t_home a_t_feet a_t_far a_t_now a_t_isKept a_t_tried a_t_row a_t_who a_t_then a_t_best a_t_seenAs a_t_seenAt a_t_plan t_trace t_typed t_at t_start t_sort t_value t_fault t_rowLong t_homes t_bestValue t_seen t_planMany t_corners t_streets t_ends t_time t_leaders t_home t_feet t_far t_now t_isKept) H1 locs1 → lv_has ls1 2 [(0, .ref a_t), (1, .int x1)] → F = fX10_takeDraft_b144 N  n t_seen t_planMany t_corners t_streets t_ends t_time t_leaders t_home t_feet t_far t_now t_isKept x1 → W p l e rmX10_takeDraft s m [.ref a_t].toArray below meth c H1 locs1 0 0 (MQ below (gQ F (fun _u : Int32 × Int32 × (Nat → Int32) × (Nat → Int32) × (Nat → Int32) × (Nat → Int32) × (Nat → Int32) × (Nat → Int32) × (Nat → Int32) × (Nat → Int32) × (Nat → Int32) × (Nat → Int32) => none) (fun _u : Int32 × Int32 × (Nat → Int32) × (Nat → Int32) × (Nat → Int32) × (Nat → Int32) × (Nat → Int32) × (Nat → Int32) × (Nat → Int32) × (Nat → Int32) × (Nat → Int32) × (Nat → Int32) => (wX10_takeDraft cI cB cZ cM cJ cK  a_t a_t_text a_t_corners a_t_streets a_t_ends a_t_time a_t_leaders a_t_home a_t_feet a_t_far a_t_now a_t_isKept a_t_tried a_t_row a_t_who a_t_then a_t_best a_t_seenAs a_t_seenAt a_t_plan t_trace t_typed t_at t_start t_sort t_value t_fault t_rowLong t_homes t_bestValue _u.1 _u.2.1 _u.2.2.1 _u.2.2.2.1 _u.2.2.2.2.1 _u.2.2.2.2.2.1 _u.2.2.2.2.2.2.1 _u.2.2.2.2.2.2.2.1 _u.2.2.2.2.2.2.2.2.1 _u.2.2.2.2.2.2.2.2.2.1 _u.2.2.2.2.2.2.2.2.2.2.1 _u.2.2.2.2.2.2.2.2.2.2.2)) D A) [.ref a_t].toArray s 0 0 A) (F0 m 144 ls1 []) := by
    intro  n
    induction n with
    | zero => intro t_seen t_planMany t_corners t_streets t_ends t_time t_leaders t_home t_feet t_far t_now t_isKept x1 H locs ls Wd hl hf; exact absurd hf hF
    | succ n ih =>
      intro t_seen t_planMany t_corners t_streets t_ends t_time t_leaders t_home t_feet t_far t_now t_isKept x1 H locs ls Wd hl hf
      refine lv_iload_n S.1 S.2.1 dX10_takeDraft_144 rfl (lv_at hl 1 rfl) ?_
      refine lv_bipush (v := 17) S.1 S.2.1 dX10_takeDraft_145 (by decide) ?_
      refine lv_icmp_ge (tgt := 163) S.1 S.2.1 dX10_takeDraft_147 rfl (fun c13 => ?_) (fun c13 => ?_)
      · have hf := g_if hf c13
        refine lv_aload_n S.1 S.2.1 dX10_takeDraft_163 rfl (lv_at hl 0 rfl) ?_
        refine g_get (a := a_t) S hK Wd iX10_takeDraft_X10 0 rfl rfl 16 rfl rfl kX10_takeDraft_8 rfl dX10_takeDraft_164 ?_
        refine lv_bipush (v := 17) S.1 S.2.1 dX10_takeDraft_167 (by decide) ?_
        refine lv_iconst (v := 0) S.1 S.2.1 dX10_takeDraft_169 (by decide) ?_
        refine g_iast (a := a_t_now) (ws' := (wX10_takeDraft cI cB cZ cM cJ cK  a_t a_t_text a_t_corners a_t_streets a_t_ends a_t_time a_t_leaders a_t_home a_t_feet a_t_far a_t_now a_t_isKept a_t_tried a_t_row a_t_who a_t_then a_t_best a_t_seenAs a_t_seenAt a_t_plan t_trace t_typed t_at t_start t_sort t_value t_fault t_rowLong t_homes t_bestValue t_seen t_planMany t_corners t_streets t_ends t_time t_leaders t_home t_feet t_far (upd t_now (17 : Int32).toNatClampNeg (0 : Int32)) t_isKept)) S hK Wd 9 0 rfl rfl (show ¬ (((17 : Int32) < 0) ∨ 564 ≤ Int32.toNatClampNeg (17 : Int32)) from by decide) dX10_takeDraft_170 rfl (fun H locs Wd => ?_)
        refine lv_aload_n S.1 S.2.1 dX10_takeDraft_171 rfl (lv_at hl 0 rfl) ?_
        refine lv_iconst (v := 0) S.1 S.2.1 dX10_takeDraft_172 (by decide) ?_
        refine g_put (a := a_t) (ws' := (wX10_takeDraft cI cB cZ cM cJ cK  a_t a_t_text a_t_corners a_t_streets a_t_ends a_t_time a_t_leaders a_t_home a_t_feet a_t_far a_t_now a_t_isKept a_t_tried a_t_row a_t_who a_t_then a_t_best a_t_seenAs a_t_seenAt a_t_plan t_trace t_typed t_at t_start t_sort t_value t_fault t_rowLong t_homes t_bestValue (0 : Int32) t_planMany t_corners t_streets t_ends t_time t_leaders t_home t_feet t_far (upd t_now (17 : Int32).toNatClampNeg (0 : Int32)) t_isKept)) S hK Wd iX10_takeDraft_X10 tyX10 tyX10_ok nmX10 0 rfl rfl 28 rfl rfl kX10_takeDraft_9 rfl rfl rfl dX10_takeDraft_173 rfl (fun H locs Wd => ?_)
        refine lv_aload_n S.1 S.2.1 dX10_takeDraft_176 rfl (lv_at hl 0 rfl) ?_
        refine lv_iconst (v := 0) S.1 S.2.1 dX10_takeDraft_177 (by decide) ?_
        refine g_put (a := a_t) (ws' := (wX10_takeDraft cI cB cZ cM cJ cK  a_t a_t_text a_t_corners a_t_streets a_t_ends a_t_time a_t_leaders a_t_home a_t_feet a_t_far a_t_now a_t_isKept a_t_tried a_t_row a_t_who a_t_then a_t_best a_t_seenAs a_t_seenAt a_t_plan t_trace t_typed t_at t_start t_sort t_value t_fault t_rowLong t_homes t_bestValue (0 : Int32) (0 : Int32) t_corners t_streets t_ends t_time t_leaders t_home t_feet t_far (upd t_now (17 : Int32).toNatClampNeg (0 : Int32)) t_isKept)) S hK Wd iX10_takeDraft_X10 tyX10 tyX10_ok nmX10 0 rfl rfl 30 rfl rfl kX10_takeDraft_10 rfl rfl rfl dX10_takeDraft_178 rfl (fun H locs Wd => ?_)
        refine lv_aload_n S.1 S.2.1 dX10_takeDraft_181 rfl (lv_at hl 0 rfl) ?_
        refine g_get (a := a_t) S hK Wd iX10_takeDraft_X10 0 rfl rfl 17 rfl rfl kX10_takeDraft_11 rfl dX10_takeDraft_182 ?_
        refine lv_iconst (v := 0) S.1 S.2.1 dX10_takeDraft_185 (by decide) ?_
        refine lv_iconst (v := 0) S.1 S.2.1 dX10_takeDraft_186 (by decide) ?_
        refine g_zast (a := a_t_isKept) (ws' := (wX10_takeDraft cI cB cZ cM cJ cK  a_t a_t_text a_t_corners a_t_streets a_t_ends a_t_time a_t_leaders a_t_home a_t_feet a_t_far a_t_now a_t_isKept a_t_tried a_t_row a_t_who a_t_then a_t_best a_t_seenAs a_t_seenAt a_t_plan t_trace t_typed t_at t_start t_sort t_value t_fault t_rowLong t_homes t_bestValue (0 : Int32) (0 : Int32) t_corners t_streets t_ends t_time t_leaders t_home t_feet t_far (upd t_now (17 : Int32).toNatClampNeg (0 : Int32)) (upd t_isKept (0 : Int32).toNatClampNeg (vp_nar .boolean (0 : Int32))))) S hK Wd 10 2 rfl rfl (show ¬ (((0 : Int32) < 0) ∨ 2 ≤ Int32.toNatClampNeg (0 : Int32)) from by decide) dX10_takeDraft_187 rfl (fun H locs Wd => ?_)
        refine lv_aload_n S.1 S.2.1 dX10_takeDraft_188 rfl (lv_at hl 0 rfl) ?_
        refine g_get (a := a_t) S hK Wd iX10_takeDraft_X10 0 rfl rfl 17 rfl rfl kX10_takeDraft_11 rfl dX10_takeDraft_189 ?_
        refine lv_iconst (v := 1) S.1 S.2.1 dX10_takeDraft_192 (by decide) ?_
        refine lv_iconst (v := 0) S.1 S.2.1 dX10_takeDraft_193 (by decide) ?_
        refine g_zast (a := a_t_isKept) (ws' := (wX10_takeDraft cI cB cZ cM cJ cK  a_t a_t_text a_t_corners a_t_streets a_t_ends a_t_time a_t_leaders a_t_home a_t_feet a_t_far a_t_now a_t_isKept a_t_tried a_t_row a_t_who a_t_then a_t_best a_t_seenAs a_t_seenAt a_t_plan t_trace t_typed t_at t_start t_sort t_value t_fault t_rowLong t_homes t_bestValue (0 : Int32) (0 : Int32) t_corners t_streets t_ends t_time t_leaders t_home t_feet t_far (upd t_now (17 : Int32).toNatClampNeg (0 : Int32)) (upd (upd t_isKept (0 : Int32).toNatClampNeg (vp_nar .boolean (0 : Int32))) (1 : Int32).toNatClampNeg (vp_nar .boolean (0 : Int32))))) S hK Wd 10 2 rfl rfl (show ¬ (((1 : Int32) < 0) ∨ 2 ≤ Int32.toNatClampNeg (1 : Int32)) from by decide) dX10_takeDraft_194 rfl (fun H locs Wd => ?_)
        exact g_vret S Wd hr hlk dX10_takeDraft_195 ((0 : Int32), (0 : Int32), t_corners, t_streets, t_ends, t_time, t_leaders, t_home, t_feet, t_far, (upd t_now (17 : Int32).toNatClampNeg (0 : Int32)), (upd (upd t_isKept (0 : Int32).toNatClampNeg (vp_nar .boolean (0 : Int32))) (1 : Int32).toNatClampNeg (vp_nar .boolean (0 : Int32)))) hf rfl rfl
      · have hf := g_ifn hf c13
        refine lv_aload_n S.1 S.2.1 dX10_takeDraft_150 rfl (lv_at hl 0 rfl) ?_
        refine g_get (a := a_t) S hK Wd iX10_takeDraft_X10 0 rfl rfl 16 rfl rfl kX10_takeDraft_8 rfl dX10_takeDraft_151 ?_
        refine lv_iload_n S.1 S.2.1 dX10_takeDraft_154 rfl (lv_at hl 1 rfl) ?_
        refine lv_iconst (v := 0) S.1 S.2.1 dX10_takeDraft_155 (by decide) ?_
        obtain ⟨h14, hf⟩ := g_gi hF hf
        refine g_iast (a := a_t_now) (ws' := (wX10_takeDraft cI cB cZ cM cJ cK  a_t a_t_text a_t_corners a_t_streets a_t_ends a_t_time a_t_leaders a_t_home a_t_feet a_t_far a_t_now a_t_isKept a_t_tried a_t_row a_t_who a_t_then a_t_best a_t_seenAs a_t_seenAt a_t_plan t_trace t_typed t_at t_start t_sort t_value t_fault t_rowLong t_homes t_bestValue t_seen t_planMany t_corners t_streets t_ends t_time t_leaders t_home t_feet t_far (upd t_now x1.toNatClampNeg (0 : Int32)) t_isKept)) S hK Wd 9 0 rfl rfl h14 dX10_takeDraft_156 rfl (fun H locs Wd => ?_)
        refine lv_iinc (v := (x1 + (1 : Int32))) (lv' := [(1, .int (x1 + (1 : Int32))), (0, .ref a_t)]) S.1 S.2.1 dX10_takeDraft_157 hl (k := 1) rfl rfl (by decide) rfl (fun ls hl => ?_)
        refine lv_goto (tgt := 144) S.1 S.2.1 dX10_takeDraft_160 rfl ?_
        exact ih t_seen t_planMany t_corners t_streets t_ends t_time t_leaders t_home t_feet t_far (upd t_now x1.toNatClampNeg (0 : Int32)) t_isKept (x1 + (1 : Int32)) _ _ _ Wd (lv_sub hl [1, 0] rfl) hf
  have b96 : ∀ (n : Nat), ∀ (t_seen t_planMany : Int32) (t_corners t_streets t_ends t_time t_leaders t_home t_feet t_far t_now t_isKept : Nat → Int32) (x1 : Int32) (H1 : Heap) (locs1 : List Loc) (ls1 : Array Slot), gw D A s.heap (wX10_takeDraft cI cB cZ cM cJ cK  a_t a_t_text a_t_corners a_t_streets a_t_ends a_t_time a_t_leaders a_t_home a_t_feet a_t_far a_t_now a_t_isKept a_t_tried a_t_row a_t_who a_t_then a_t_best a_t_seenAs a_t_seenAt a_t_plan t_trace t_typed t_at t_start t_sort t_value t_fault t_rowLong t_homes t_bestValue t_seen t_planMany t_corners t_streets t_ends t_time t_leaders t_home t_feet t_far t_now t_isKept) H1 locs1 → lv_has ls1 2 [(0, .ref a_t), (1, .int x1)] → F = fX10_takeDraft_b96 N  n t_seen t_planMany t_corners t_streets t_ends t_time t_leaders t_home t_feet t_far t_now t_isKept x1 → W p l e rmX10_takeDraft s m [.ref a_t].toArray below meth c H1 locs1 0 0 (MQ below (gQ F (fun _u : Int32 × Int32 × (Nat → Int32) × (Nat → Int32) × (Nat → Int32) × (Nat → Int32) × (Nat → Int32) × (Nat → Int32) × (Nat → Int32) × (Nat → Int32) × (Nat → Int32) × (Nat → Int32) => none) (fun _u : Int32 × Int32 × (Nat → Int32) × (Nat → Int32) × (Nat → Int32) × (Nat → Int32) × (Nat → Int32) × (Nat → Int32) × (Nat → Int32) × (Nat → Int32) × (Nat → Int32) × (Nat → Int32) => (wX10_takeDraft cI cB cZ cM cJ cK  a_t a_t_text a_t_corners a_t_streets a_t_ends a_t_time a_t_leaders a_t_home a_t_feet a_t_far a_t_now a_t_isKept a_t_tried a_t_row a_t_who a_t_then a_t_best a_t_seenAs a_t_seenAt a_t_plan t_trace t_typed t_at t_start t_sort t_value t_fault t_rowLong t_homes t_bestValue _u.1 _u.2.1 _u.2.2.1 _u.2.2.2.1 _u.2.2.2.2.1 _u.2.2.2.2.2.1 _u.2.2.2.2.2.2.1 _u.2.2.2.2.2.2.2.1 _u.2.2.2.2.2.2.2.2.1 _u.2.2.2.2.2.2.2.2.2.1 _u.2.2.2.2.2.2.2.2.2.2.1 _u.2.2.2.2.2.2.2.2.2.2.2)) D A) [.ref a_t].toArray s 0 0 A) (F0 m 96 ls1 []) := by
    intro  n
    induction n with
    | zero => intro t_seen t_planMany t_corners t_streets t_ends t_time t_leaders t_home t_feet t_far t_now t_isKept x1 H locs ls Wd hl hf; exact absurd hf hF
    | succ n ih =>
      intro t_seen t_planMany t_corners t_streets t_ends t_time t_leaders t_home t_feet t_far t_now t_isKept x1 H locs ls Wd hl hf
      refine lv_iload_n S.1 S.2.1 dX10_takeDraft_96 rfl (lv_at hl 1 rfl) ?_
      refine lv_bipush (v := 6) S.1 S.2.1 dX10_takeDraft_97 (by decide) ?_
      refine lv_icmp_ge (tgt := 138) S.1 S.2.1 dX10_takeDraft_99 rfl (fun c7 => ?_) (fun c7 => ?_)
      · have hf := g_if hf c7
        refine lv_aload_n S.1 S.2.1 dX10_takeDraft_138 rfl (lv_at hl 0 rfl) ?_
        obtain ⟨u8, hu8, hf⟩ := g_bind hF hf
        refine g_callV (ws' := (wX10_takeDraft cI cB cZ cM cJ cK  a_t a_t_text a_t_corners a_t_streets a_t_ends a_t_time a_t_leaders a_t_home a_t_feet a_t_far a_t_now a_t_isKept a_t_tried a_t_row a_t_who a_t_then a_t_best a_t_seenAs a_t_seenAt a_t_plan t_trace t_typed t_at t_start t_sort t_value t_fault t_rowLong t_homes t_bestValue t_seen t_planMany t_corners t_streets t_ends t_time t_leaders t_home t_feet u8 t_now t_isKept)) (As := []) (rest := []) (st1 := []) S hK hA Wd (c_X10_measure l D N cI cB cZ cM cJ cK a_t a_t_text a_t_corners a_t_streets a_t_ends a_t_time a_t_leaders a_t_home a_t_feet a_t_far a_t_now a_t_isKept a_t_tried a_t_row a_t_who a_t_then a_t_best a_t_seenAs a_t_seenAt a_t_plan t_trace t_typed t_at t_start t_sort t_value t_fault t_rowLong t_homes t_bestValue t_seen t_planMany t_streets t_ends t_time t_far) (cwV 0 S.2.2.2.2 gX10_takeDraft_X10_measure rfl rfl rfl n_X10_measure ⟨Nat.le_of_ble_eq_true rfl, Nat.le_of_ble_eq_true rfl⟩) hu8 [0, 2, 3, 4, 8] rfl rfl 0 10 rfl rfl rfl rfl rfl rfl rfl hl.1 rfl (Nat.le_of_ble_eq_true rfl) dX10_takeDraft_139 ⟨Nat.zero_le _, Nat.zero_le _⟩ (fun H locs Wd => ?_)
        refine lv_iconst (v := 0) S.1 S.2.1 dX10_takeDraft_142 (by decide) ?_
        refine lv_istore_n (lv' := [(1, .int (0 : Int32)), (0, .ref a_t)]) S.1 S.2.1 dX10_takeDraft_143 rfl hl (by decide) rfl (fun ls hl => ?_)
        exact b144  N t_seen t_planMany t_corners t_streets t_ends t_time t_leaders t_home t_feet u8 t_now t_isKept (0 : Int32) _ _ _ Wd (lv_sub hl [1, 0] rfl) hf
      · have hf := g_ifn hf c7
        refine lv_aload_n S.1 S.2.1 dX10_takeDraft_102 rfl (lv_at hl 0 rfl) ?_
        refine g_get (a := a_t) S hK Wd iX10_takeDraft_X10 0 rfl rfl 8 rfl rfl kX10_takeDraft_6 rfl dX10_takeDraft_103 ?_
        refine lv_iload_n S.1 S.2.1 dX10_takeDraft_106 rfl (lv_at hl 1 rfl) ?_
        refine lv_aload_n S.1 S.2.1 dX10_takeDraft_107 rfl (lv_at hl 0 rfl) ?_
        refine g_get (a := a_t) S hK Wd iX10_takeDraft_X10 0 rfl rfl 8 rfl rfl kX10_takeDraft_6 rfl dX10_takeDraft_108 ?_
        refine lv_bipush (v := 6) S.1 S.2.1 dX10_takeDraft_111 (by decide) ?_
        refine lv_iload_n S.1 S.2.1 dX10_takeDraft_113 rfl (lv_at hl 1 rfl) ?_
        refine lv_iadd S.1 S.2.1 dX10_takeDraft_114 ?_
        obtain ⟨h9, hf⟩ := g_gi hF hf
        refine g_iald (a := a_t_home) S hK Wd 6 0 rfl rfl h9 dX10_takeDraft_115 ?_
        obtain ⟨h10, hf⟩ := g_gi hF hf
        refine g_iast (a := a_t_home) (ws' := (wX10_takeDraft cI cB cZ cM cJ cK  a_t a_t_text a_t_corners a_t_streets a_t_ends a_t_time a_t_leaders a_t_home a_t_feet a_t_far a_t_now a_t_isKept a_t_tried a_t_row a_t_who a_t_then a_t_best a_t_seenAs a_t_seenAt a_t_plan t_trace t_typed t_at t_start t_sort t_value t_fault t_rowLong t_homes t_bestValue t_seen t_planMany t_corners t_streets t_ends t_time t_leaders (upd t_home x1.toNatClampNeg (t_home ((6 : Int32) + x1).toNatClampNeg)) t_feet t_far t_now t_isKept)) S hK Wd 6 0 rfl rfl h10 dX10_takeDraft_116 rfl (fun H locs Wd => ?_)
        refine lv_aload_n S.1 S.2.1 dX10_takeDraft_117 rfl (lv_at hl 0 rfl) ?_
        refine g_get (a := a_t) S hK Wd iX10_takeDraft_X10 0 rfl rfl 9 rfl rfl kX10_takeDraft_7 rfl dX10_takeDraft_118 ?_
        refine lv_iload_n S.1 S.2.1 dX10_takeDraft_121 rfl (lv_at hl 1 rfl) ?_
        refine lv_aload_n S.1 S.2.1 dX10_takeDraft_122 rfl (lv_at hl 0 rfl) ?_
        refine g_get (a := a_t) S hK Wd iX10_takeDraft_X10 0 rfl rfl 9 rfl rfl kX10_takeDraft_7 rfl dX10_takeDraft_123 ?_
        refine lv_bipush (v := 6) S.1 S.2.1 dX10_takeDraft_126 (by decide) ?_
        refine lv_iload_n S.1 S.2.1 dX10_takeDraft_128 rfl (lv_at hl 1 rfl) ?_
        refine lv_iadd S.1 S.2.1 dX10_takeDraft_129 ?_
        obtain ⟨h11, hf⟩ := g_gi hF hf
        refine g_iald (a := a_t_feet) S hK Wd 7 0 rfl rfl h11 dX10_takeDraft_130 ?_
        obtain ⟨h12, hf⟩ := g_gi hF hf
        refine g_iast (a := a_t_feet) (ws' := (wX10_takeDraft cI cB cZ cM cJ cK  a_t a_t_text a_t_corners a_t_streets a_t_ends a_t_time a_t_leaders a_t_home a_t_feet a_t_far a_t_now a_t_isKept a_t_tried a_t_row a_t_who a_t_then a_t_best a_t_seenAs a_t_seenAt a_t_plan t_trace t_typed t_at t_start t_sort t_value t_fault t_rowLong t_homes t_bestValue t_seen t_planMany t_corners t_streets t_ends t_time t_leaders (upd t_home x1.toNatClampNeg (t_home ((6 : Int32) + x1).toNatClampNeg)) (upd t_feet x1.toNatClampNeg (t_feet ((6 : Int32) + x1).toNatClampNeg)) t_far t_now t_isKept)) S hK Wd 7 0 rfl rfl h12 dX10_takeDraft_131 rfl (fun H locs Wd => ?_)
        refine lv_iinc (v := (x1 + (1 : Int32))) (lv' := [(1, .int (x1 + (1 : Int32))), (0, .ref a_t)]) S.1 S.2.1 dX10_takeDraft_132 hl (k := 1) rfl rfl (by decide) rfl (fun ls hl => ?_)
        refine lv_goto (tgt := 96) S.1 S.2.1 dX10_takeDraft_135 rfl ?_
        exact ih t_seen t_planMany t_corners t_streets t_ends t_time t_leaders (upd t_home x1.toNatClampNeg (t_home ((6 : Int32) + x1).toNatClampNeg)) (upd t_feet x1.toNatClampNeg (t_feet ((6 : Int32) + x1).toNatClampNeg)) t_far t_now t_isKept (x1 + (1 : Int32)) _ _ _ Wd (lv_sub hl [1, 0] rfl) hf
  have b67 : ∀ (n : Nat), ∀ (t_seen t_planMany : Int32) (t_corners t_streets t_ends t_time t_leaders t_home t_feet t_far t_now t_isKept : Nat → Int32) (x1 : Int32) (H1 : Heap) (locs1 : List Loc) (ls1 : Array Slot), gw D A s.heap (wX10_takeDraft cI cB cZ cM cJ cK  a_t a_t_text a_t_corners a_t_streets a_t_ends a_t_time a_t_leaders a_t_home a_t_feet a_t_far a_t_now a_t_isKept a_t_tried a_t_row a_t_who a_t_then a_t_best a_t_seenAs a_t_seenAt a_t_plan t_trace t_typed t_at t_start t_sort t_value t_fault t_rowLong t_homes t_bestValue t_seen t_planMany t_corners t_streets t_ends t_time t_leaders t_home t_feet t_far t_now t_isKept) H1 locs1 → lv_has ls1 2 [(0, .ref a_t), (1, .int x1)] → F = fX10_takeDraft_b67 N  n t_seen t_planMany t_corners t_streets t_ends t_time t_leaders t_home t_feet t_far t_now t_isKept x1 → W p l e rmX10_takeDraft s m [.ref a_t].toArray below meth c H1 locs1 0 0 (MQ below (gQ F (fun _u : Int32 × Int32 × (Nat → Int32) × (Nat → Int32) × (Nat → Int32) × (Nat → Int32) × (Nat → Int32) × (Nat → Int32) × (Nat → Int32) × (Nat → Int32) × (Nat → Int32) × (Nat → Int32) => none) (fun _u : Int32 × Int32 × (Nat → Int32) × (Nat → Int32) × (Nat → Int32) × (Nat → Int32) × (Nat → Int32) × (Nat → Int32) × (Nat → Int32) × (Nat → Int32) × (Nat → Int32) × (Nat → Int32) => (wX10_takeDraft cI cB cZ cM cJ cK  a_t a_t_text a_t_corners a_t_streets a_t_ends a_t_time a_t_leaders a_t_home a_t_feet a_t_far a_t_now a_t_isKept a_t_tried a_t_row a_t_who a_t_then a_t_best a_t_seenAs a_t_seenAt a_t_plan t_trace t_typed t_at t_start t_sort t_value t_fault t_rowLong t_homes t_bestValue _u.1 _u.2.1 _u.2.2.1 _u.2.2.2.1 _u.2.2.2.2.1 _u.2.2.2.2.2.1 _u.2.2.2.2.2.2.1 _u.2.2.2.2.2.2.2.1 _u.2.2.2.2.2.2.2.2.1 _u.2.2.2.2.2.2.2.2.2.1 _u.2.2.2.2.2.2.2.2.2.2.1 _u.2.2.2.2.2.2.2.2.2.2.2)) D A) [.ref a_t].toArray s 0 0 A) (F0 m 67 ls1 []) := by
    intro  n
    induction n with
    | zero => intro t_seen t_planMany t_corners t_streets t_ends t_time t_leaders t_home t_feet t_far t_now t_isKept x1 H locs ls Wd hl hf; exact absurd hf hF
    | succ n ih =>
      intro t_seen t_planMany t_corners t_streets t_ends t_time t_leaders t_home t_feet t_far t_now t_isKept x1 H locs ls Wd hl hf
      refine lv_iload_n S.1 S.2.1 dX10_takeDraft_67 rfl (lv_at hl 1 rfl) ?_
      refine lv_bipush (v := 12) S.1 S.2.1 dX10_takeDraft_68 (by decide) ?_
      refine lv_icmp_ge (tgt := 94) S.1 S.2.1 dX10_takeDraft_70 rfl (fun c4 => ?_) (fun c4 => ?_)
      · have hf := g_if hf c4
        refine lv_iconst (v := 0) S.1 S.2.1 dX10_takeDraft_94 (by decide) ?_
        refine lv_istore_n (lv' := [(1, .int (0 : Int32)), (0, .ref a_t)]) S.1 S.2.1 dX10_takeDraft_95 rfl hl (by decide) rfl (fun ls hl => ?_)
        exact b96  N t_seen t_planMany t_corners t_streets t_ends t_time t_leaders t_home t_feet t_far t_now t_isKept (0 : Int32) _ _ _ Wd (lv_sub hl [1, 0] rfl) hf
      · have hf := g_ifn hf c4
        refine lv_aload_n S.1 S.2.1 dX10_takeDraft_73 rfl (lv_at hl 0 rfl) ?_
        refine g_get (a := a_t) S hK Wd iX10_takeDraft_X10 0 rfl rfl 6 rfl rfl kX10_takeDraft_5 rfl dX10_takeDraft_74 ?_
        refine lv_iload_n S.1 S.2.1 dX10_takeDraft_77 rfl (lv_at hl 1 rfl) ?_
        refine lv_aload_n S.1 S.2.1 dX10_takeDraft_78 rfl (lv_at hl 0 rfl) ?_
        refine g_get (a := a_t) S hK Wd iX10_takeDraft_X10 0 rfl rfl 6 rfl rfl kX10_takeDraft_5 rfl dX10_takeDraft_79 ?_
        refine lv_bipush (v := 12) S.1 S.2.1 dX10_takeDraft_82 (by decide) ?_
        refine lv_iload_n S.1 S.2.1 dX10_takeDraft_84 rfl (lv_at hl 1 rfl) ?_
        refine lv_iadd S.1 S.2.1 dX10_takeDraft_85 ?_
        obtain ⟨h5, hf⟩ := g_gi hF hf
        refine g_iald (a := a_t_time) S hK Wd 4 0 rfl rfl h5 dX10_takeDraft_86 ?_
        obtain ⟨h6, hf⟩ := g_gi hF hf
        refine g_iast (a := a_t_time) (ws' := (wX10_takeDraft cI cB cZ cM cJ cK  a_t a_t_text a_t_corners a_t_streets a_t_ends a_t_time a_t_leaders a_t_home a_t_feet a_t_far a_t_now a_t_isKept a_t_tried a_t_row a_t_who a_t_then a_t_best a_t_seenAs a_t_seenAt a_t_plan t_trace t_typed t_at t_start t_sort t_value t_fault t_rowLong t_homes t_bestValue t_seen t_planMany t_corners t_streets t_ends (upd t_time x1.toNatClampNeg (t_time ((12 : Int32) + x1).toNatClampNeg)) t_leaders t_home t_feet t_far t_now t_isKept)) S hK Wd 4 0 rfl rfl h6 dX10_takeDraft_87 rfl (fun H locs Wd => ?_)
        refine lv_iinc (v := (x1 + (1 : Int32))) (lv' := [(1, .int (x1 + (1 : Int32))), (0, .ref a_t)]) S.1 S.2.1 dX10_takeDraft_88 hl (k := 1) rfl rfl (by decide) rfl (fun ls hl => ?_)
        refine lv_goto (tgt := 67) S.1 S.2.1 dX10_takeDraft_91 rfl ?_
        exact ih t_seen t_planMany t_corners t_streets t_ends (upd t_time x1.toNatClampNeg (t_time ((12 : Int32) + x1).toNatClampNeg)) t_leaders t_home t_feet t_far t_now t_isKept (x1 + (1 : Int32)) _ _ _ Wd (lv_sub hl [1, 0] rfl) hf
  have b38 : ∀ (n : Nat), ∀ (t_seen t_planMany : Int32) (t_corners t_streets t_ends t_time t_leaders t_home t_feet t_far t_now t_isKept : Nat → Int32) (x1 : Int32) (H1 : Heap) (locs1 : List Loc) (ls1 : Array Slot), gw D A s.heap (wX10_takeDraft cI cB cZ cM cJ cK  a_t a_t_text a_t_corners a_t_streets a_t_ends a_t_time a_t_leaders a_t_home a_t_feet a_t_far a_t_now a_t_isKept a_t_tried a_t_row a_t_who a_t_then a_t_best a_t_seenAs a_t_seenAt a_t_plan t_trace t_typed t_at t_start t_sort t_value t_fault t_rowLong t_homes t_bestValue t_seen t_planMany t_corners t_streets t_ends t_time t_leaders t_home t_feet t_far t_now t_isKept) H1 locs1 → lv_has ls1 2 [(0, .ref a_t), (1, .int x1)] → F = fX10_takeDraft_b38 N  n t_seen t_planMany t_corners t_streets t_ends t_time t_leaders t_home t_feet t_far t_now t_isKept x1 → W p l e rmX10_takeDraft s m [.ref a_t].toArray below meth c H1 locs1 0 0 (MQ below (gQ F (fun _u : Int32 × Int32 × (Nat → Int32) × (Nat → Int32) × (Nat → Int32) × (Nat → Int32) × (Nat → Int32) × (Nat → Int32) × (Nat → Int32) × (Nat → Int32) × (Nat → Int32) × (Nat → Int32) => none) (fun _u : Int32 × Int32 × (Nat → Int32) × (Nat → Int32) × (Nat → Int32) × (Nat → Int32) × (Nat → Int32) × (Nat → Int32) × (Nat → Int32) × (Nat → Int32) × (Nat → Int32) × (Nat → Int32) => (wX10_takeDraft cI cB cZ cM cJ cK  a_t a_t_text a_t_corners a_t_streets a_t_ends a_t_time a_t_leaders a_t_home a_t_feet a_t_far a_t_now a_t_isKept a_t_tried a_t_row a_t_who a_t_then a_t_best a_t_seenAs a_t_seenAt a_t_plan t_trace t_typed t_at t_start t_sort t_value t_fault t_rowLong t_homes t_bestValue _u.1 _u.2.1 _u.2.2.1 _u.2.2.2.1 _u.2.2.2.2.1 _u.2.2.2.2.2.1 _u.2.2.2.2.2.2.1 _u.2.2.2.2.2.2.2.1 _u.2.2.2.2.2.2.2.2.1 _u.2.2.2.2.2.2.2.2.2.1 _u.2.2.2.2.2.2.2.2.2.2.1 _u.2.2.2.2.2.2.2.2.2.2.2)) D A) [.ref a_t].toArray s 0 0 A) (F0 m 38 ls1 []) := by
    intro  n
    induction n with
    | zero => intro t_seen t_planMany t_corners t_streets t_ends t_time t_leaders t_home t_feet t_far t_now t_isKept x1 H locs ls Wd hl hf; exact absurd hf hF
    | succ n ih =>
      intro t_seen t_planMany t_corners t_streets t_ends t_time t_leaders t_home t_feet t_far t_now t_isKept x1 H locs ls Wd hl hf
      refine lv_iload_n S.1 S.2.1 dX10_takeDraft_38 rfl (lv_at hl 1 rfl) ?_
      refine lv_bipush (v := 24) S.1 S.2.1 dX10_takeDraft_39 (by decide) ?_
      refine lv_icmp_ge (tgt := 65) S.1 S.2.1 dX10_takeDraft_41 rfl (fun c1 => ?_) (fun c1 => ?_)
      · have hf := g_if hf c1
        refine lv_iconst (v := 0) S.1 S.2.1 dX10_takeDraft_65 (by decide) ?_
        refine lv_istore_n (lv' := [(1, .int (0 : Int32)), (0, .ref a_t)]) S.1 S.2.1 dX10_takeDraft_66 rfl hl (by decide) rfl (fun ls hl => ?_)
        exact b67  N t_seen t_planMany t_corners t_streets t_ends t_time t_leaders t_home t_feet t_far t_now t_isKept (0 : Int32) _ _ _ Wd (lv_sub hl [1, 0] rfl) hf
      · have hf := g_ifn hf c1
        refine lv_aload_n S.1 S.2.1 dX10_takeDraft_44 rfl (lv_at hl 0 rfl) ?_
        refine g_get (a := a_t) S hK Wd iX10_takeDraft_X10 0 rfl rfl 5 rfl rfl kX10_takeDraft_4 rfl dX10_takeDraft_45 ?_
        refine lv_iload_n S.1 S.2.1 dX10_takeDraft_48 rfl (lv_at hl 1 rfl) ?_
        refine lv_aload_n S.1 S.2.1 dX10_takeDraft_49 rfl (lv_at hl 0 rfl) ?_
        refine g_get (a := a_t) S hK Wd iX10_takeDraft_X10 0 rfl rfl 5 rfl rfl kX10_takeDraft_4 rfl dX10_takeDraft_50 ?_
        refine lv_bipush (v := 24) S.1 S.2.1 dX10_takeDraft_53 (by decide) ?_
        refine lv_iload_n S.1 S.2.1 dX10_takeDraft_55 rfl (lv_at hl 1 rfl) ?_
        refine lv_iadd S.1 S.2.1 dX10_takeDraft_56 ?_
        obtain ⟨h2, hf⟩ := g_gi hF hf
        refine g_iald (a := a_t_ends) S hK Wd 3 0 rfl rfl h2 dX10_takeDraft_57 ?_
        obtain ⟨h3, hf⟩ := g_gi hF hf
        refine g_iast (a := a_t_ends) (ws' := (wX10_takeDraft cI cB cZ cM cJ cK  a_t a_t_text a_t_corners a_t_streets a_t_ends a_t_time a_t_leaders a_t_home a_t_feet a_t_far a_t_now a_t_isKept a_t_tried a_t_row a_t_who a_t_then a_t_best a_t_seenAs a_t_seenAt a_t_plan t_trace t_typed t_at t_start t_sort t_value t_fault t_rowLong t_homes t_bestValue t_seen t_planMany t_corners t_streets (upd t_ends x1.toNatClampNeg (t_ends ((24 : Int32) + x1).toNatClampNeg)) t_time t_leaders t_home t_feet t_far t_now t_isKept)) S hK Wd 3 0 rfl rfl h3 dX10_takeDraft_58 rfl (fun H locs Wd => ?_)
        refine lv_iinc (v := (x1 + (1 : Int32))) (lv' := [(1, .int (x1 + (1 : Int32))), (0, .ref a_t)]) S.1 S.2.1 dX10_takeDraft_59 hl (k := 1) rfl rfl (by decide) rfl (fun ls hl => ?_)
        refine lv_goto (tgt := 38) S.1 S.2.1 dX10_takeDraft_62 rfl ?_
        exact ih t_seen t_planMany t_corners t_streets (upd t_ends x1.toNatClampNeg (t_ends ((24 : Int32) + x1).toNatClampNeg)) t_time t_leaders t_home t_feet t_far t_now t_isKept (x1 + (1 : Int32)) _ _ _ Wd (lv_sub hl [1, 0] rfl) hf
  refine lv_aload_n S.1 S.2.1 dX10_takeDraft_0 rfl (lv_at hl 0 rfl) ?_
  refine g_get (a := a_t) S hK Wd iX10_takeDraft_X10 0 rfl rfl 3 rfl rfl kX10_takeDraft_1 rfl dX10_takeDraft_1 ?_
  refine lv_iconst (v := 0) S.1 S.2.1 dX10_takeDraft_4 (by decide) ?_
  refine lv_aload_n S.1 S.2.1 dX10_takeDraft_5 rfl (lv_at hl 0 rfl) ?_
  refine g_get (a := a_t) S hK Wd iX10_takeDraft_X10 0 rfl rfl 3 rfl rfl kX10_takeDraft_1 rfl dX10_takeDraft_6 ?_
  refine lv_iconst (v := 1) S.1 S.2.1 dX10_takeDraft_9 (by decide) ?_
  refine g_iald (a := a_t_corners) S hK Wd 1 0 rfl rfl (show ¬ (((1 : Int32) < 0) ∨ 2 ≤ Int32.toNatClampNeg (1 : Int32)) from by decide) dX10_takeDraft_10 ?_
  refine g_iast (a := a_t_corners) (ws' := (wX10_takeDraft cI cB cZ cM cJ cK  a_t a_t_text a_t_corners a_t_streets a_t_ends a_t_time a_t_leaders a_t_home a_t_feet a_t_far a_t_now a_t_isKept a_t_tried a_t_row a_t_who a_t_then a_t_best a_t_seenAs a_t_seenAt a_t_plan t_trace t_typed t_at t_start t_sort t_value t_fault t_rowLong t_homes t_bestValue t_seen t_planMany (upd t_corners (0 : Int32).toNatClampNeg (t_corners (1 : Int32).toNatClampNeg)) t_streets t_ends t_time t_leaders t_home t_feet t_far t_now t_isKept)) S hK Wd 1 0 rfl rfl (show ¬ (((0 : Int32) < 0) ∨ 2 ≤ Int32.toNatClampNeg (0 : Int32)) from by decide) dX10_takeDraft_11 rfl (fun H locs Wd => ?_)
  refine lv_aload_n S.1 S.2.1 dX10_takeDraft_12 rfl (lv_at hl 0 rfl) ?_
  refine g_get (a := a_t) S hK Wd iX10_takeDraft_X10 0 rfl rfl 4 rfl rfl kX10_takeDraft_2 rfl dX10_takeDraft_13 ?_
  refine lv_iconst (v := 0) S.1 S.2.1 dX10_takeDraft_16 (by decide) ?_
  refine lv_aload_n S.1 S.2.1 dX10_takeDraft_17 rfl (lv_at hl 0 rfl) ?_
  refine g_get (a := a_t) S hK Wd iX10_takeDraft_X10 0 rfl rfl 4 rfl rfl kX10_takeDraft_2 rfl dX10_takeDraft_18 ?_
  refine lv_iconst (v := 1) S.1 S.2.1 dX10_takeDraft_21 (by decide) ?_
  refine g_iald (a := a_t_streets) S hK Wd 2 0 rfl rfl (show ¬ (((1 : Int32) < 0) ∨ 2 ≤ Int32.toNatClampNeg (1 : Int32)) from by decide) dX10_takeDraft_22 ?_
  refine g_iast (a := a_t_streets) (ws' := (wX10_takeDraft cI cB cZ cM cJ cK  a_t a_t_text a_t_corners a_t_streets a_t_ends a_t_time a_t_leaders a_t_home a_t_feet a_t_far a_t_now a_t_isKept a_t_tried a_t_row a_t_who a_t_then a_t_best a_t_seenAs a_t_seenAt a_t_plan t_trace t_typed t_at t_start t_sort t_value t_fault t_rowLong t_homes t_bestValue t_seen t_planMany (upd t_corners (0 : Int32).toNatClampNeg (t_corners (1 : Int32).toNatClampNeg)) (upd t_streets (0 : Int32).toNatClampNeg (t_streets (1 : Int32).toNatClampNeg)) t_ends t_time t_leaders t_home t_feet t_far t_now t_isKept)) S hK Wd 2 0 rfl rfl (show ¬ (((0 : Int32) < 0) ∨ 2 ≤ Int32.toNatClampNeg (0 : Int32)) from by decide) dX10_takeDraft_23 rfl (fun H locs Wd => ?_)
  refine lv_aload_n S.1 S.2.1 dX10_takeDraft_24 rfl (lv_at hl 0 rfl) ?_
  refine g_get (a := a_t) S hK Wd iX10_takeDraft_X10 0 rfl rfl 7 rfl rfl kX10_takeDraft_3 rfl dX10_takeDraft_25 ?_
  refine lv_iconst (v := 0) S.1 S.2.1 dX10_takeDraft_28 (by decide) ?_
  refine lv_aload_n S.1 S.2.1 dX10_takeDraft_29 rfl (lv_at hl 0 rfl) ?_
  refine g_get (a := a_t) S hK Wd iX10_takeDraft_X10 0 rfl rfl 7 rfl rfl kX10_takeDraft_3 rfl dX10_takeDraft_30 ?_
  refine lv_iconst (v := 1) S.1 S.2.1 dX10_takeDraft_33 (by decide) ?_
  refine g_iald (a := a_t_leaders) S hK Wd 5 0 rfl rfl (show ¬ (((1 : Int32) < 0) ∨ 2 ≤ Int32.toNatClampNeg (1 : Int32)) from by decide) dX10_takeDraft_34 ?_
  refine g_iast (a := a_t_leaders) (ws' := (wX10_takeDraft cI cB cZ cM cJ cK  a_t a_t_text a_t_corners a_t_streets a_t_ends a_t_time a_t_leaders a_t_home a_t_feet a_t_far a_t_now a_t_isKept a_t_tried a_t_row a_t_who a_t_then a_t_best a_t_seenAs a_t_seenAt a_t_plan t_trace t_typed t_at t_start t_sort t_value t_fault t_rowLong t_homes t_bestValue t_seen t_planMany (upd t_corners (0 : Int32).toNatClampNeg (t_corners (1 : Int32).toNatClampNeg)) (upd t_streets (0 : Int32).toNatClampNeg (t_streets (1 : Int32).toNatClampNeg)) t_ends t_time (upd t_leaders (0 : Int32).toNatClampNeg (t_leaders (1 : Int32).toNatClampNeg)) t_home t_feet t_far t_now t_isKept)) S hK Wd 5 0 rfl rfl (show ¬ (((0 : Int32) < 0) ∨ 2 ≤ Int32.toNatClampNeg (0 : Int32)) from by decide) dX10_takeDraft_35 rfl (fun H locs Wd => ?_)
  refine lv_iconst (v := 0) S.1 S.2.1 dX10_takeDraft_36 (by decide) ?_
  refine lv_istore_n (lv' := [(1, .int (0 : Int32)), (0, .ref a_t)]) S.1 S.2.1 dX10_takeDraft_37 rfl hl (by decide) rfl (fun ls hl => ?_)
  exact b38  N t_seen t_planMany (upd t_corners (0 : Int32).toNatClampNeg (t_corners (1 : Int32).toNatClampNeg)) (upd t_streets (0 : Int32).toNatClampNeg (t_streets (1 : Int32).toNatClampNeg)) t_ends t_time (upd t_leaders (0 : Int32).toNatClampNeg (t_leaders (1 : Int32).toNatClampNeg)) t_home t_feet t_far t_now t_isKept (0 : Int32) _ _ _ Wd (lv_sub hl [1, 0] rfl) hf
def wX10_city (cI cB cZ cM cJ cK : ClassId) (a_t a_t_text a_t_corners a_t_streets a_t_ends a_t_time a_t_leaders a_t_home a_t_feet a_t_far a_t_now a_t_isKept a_t_tried a_t_row a_t_who a_t_then a_t_best a_t_seenAs a_t_seenAt a_t_plan : Nat) (t_trace : Int64) (t_typed t_at t_start t_sort t_value t_fault t_rowLong t_homes t_bestValue t_seen t_planMany : Int32) (t_text t_corners t_streets t_ends t_time t_leaders t_home t_feet t_far t_now t_isKept : Nat → Int32) : List va_W := [[(a_t, .inr (10, [.long t_trace, .ref a_t_text, .int t_typed, .ref a_t_corners, .ref a_t_streets, .ref a_t_ends, .ref a_t_time, .ref a_t_leaders, .ref a_t_home, .ref a_t_feet, .int t_at, .int t_start, .int t_sort, .int t_value, .int t_fault, .ref a_t_far, .ref a_t_now, .ref a_t_isKept, .ref a_t_tried, .ref a_t_row, .int t_rowLong, .ref a_t_who, .ref a_t_then, .int t_homes, .ref a_t_best, .int t_bestValue, .ref a_t_seenAs, .ref a_t_seenAt, .int t_seen, .ref a_t_plan, .int t_planMany]))], [(a_t_text, .inl (cB, 150, .inl t_text))], [(a_t_corners, .inl (cI, 2, .inl t_corners))], [(a_t_streets, .inl (cI, 2, .inl t_streets))], [(a_t_ends, .inl (cI, 48, .inl t_ends))], [(a_t_time, .inl (cI, 24, .inl t_time))], [(a_t_leaders, .inl (cI, 2, .inl t_leaders))], [(a_t_home, .inl (cI, 12, .inl t_home))], [(a_t_feet, .inl (cI, 12, .inl t_feet))], [(a_t_far, .inl (cI, 64, .inl t_far))], [(a_t_now, .inl (cI, 564, .inl t_now))], [(a_t_isKept, .inl (cZ, 2, .inl t_isKept))]]
def rmX10_city : Room := { frames := 5, cells := 0, slots := 0, locals := 109 }
theorem kX10_city_1 : Cond.fieldLink RX10 83 "FeastMarchModel" "at" "I" ∈ wsX10_city := List.mem_of_getElem? (i := 1) rfl
theorem kX10_city_2 : Cond.fieldLink RX10 99 "FeastMarchModel" "fault" "I" ∈ wsX10_city := List.mem_of_getElem? (i := 2) rfl
theorem kX10_city_3 : Cond.fieldLink RX10 96 "FeastMarchModel" "sort" "I" ∈ wsX10_city := List.mem_of_getElem? (i := 3) rfl
theorem kX10_city_4 : Cond.fieldLink RX10 79 "FeastMarchModel" "typed" "I" ∈ wsX10_city := List.mem_of_getElem? (i := 4) rfl
theorem iX10_city_X10 : ∀ w ∈ wsX100, w ∈ wsX10_city := fun _ h => List.mem_cons_of_mem _ (List.mem_append_right _ h)
theorem n_X10_city : yX10_city.cls = RX10 ∧ yX10_city.cls ≠ "java/lang/invoke/MethodHandle" ∧ yX10_city.cls ≠ "java/lang/invoke/VarHandle" ∧ (parseMethodDescriptor yX10_city.desc).map (fun d => d.parameters.length) = some 0 := by decide +kernel
set_option maxHeartbeats 4000000 in
set_option maxRecDepth 100000 in
theorem c_X10_city (l : Launch) (D : va_G) (N : Nat) (cI cB cZ cM cJ cK : ClassId) (a_t a_t_text a_t_corners a_t_streets a_t_ends a_t_time a_t_leaders a_t_home a_t_feet a_t_far a_t_now a_t_isKept a_t_tried a_t_row a_t_who a_t_then a_t_best a_t_seenAs a_t_seenAt a_t_plan : Nat) (t_trace : Int64) (t_typed t_at t_start t_sort t_value t_fault t_rowLong t_homes t_bestValue t_seen t_planMany : Int32) (t_text t_corners t_streets t_ends t_time t_leaders t_home t_feet t_far t_now t_isKept : Nat → Int32) : gM l yX10_city wsX10_city rmX10_city D (gT cI cB cZ cM cJ cK) (wX10_city cI cB cZ cM cJ cK  a_t a_t_text a_t_corners a_t_streets a_t_ends a_t_time a_t_leaders a_t_home a_t_feet a_t_far a_t_now a_t_isKept a_t_tried a_t_row a_t_who a_t_then a_t_best a_t_seenAs a_t_seenAt a_t_plan t_trace t_typed t_at t_start t_sort t_value t_fault t_rowLong t_homes t_bestValue t_seen t_planMany t_text t_corners t_streets t_ends t_time t_leaders t_home t_feet t_far t_now t_isKept) [.ref a_t] (fX10_city N t_typed t_at t_start t_sort t_value t_fault t_seen t_planMany t_text t_corners t_streets t_ends t_time t_leaders t_home t_feet t_far t_now t_isKept) (fun _u : Int32 × Int32 × Int32 × Int32 × Int32 × Int32 × Int32 × Int32 × Int32 × (Nat → Int32) × (Nat → Int32) × (Nat → Int32) × (Nat → Int32) × (Nat → Int32) × (Nat → Int32) × (Nat → Int32) × (Nat → Int32) × (Nat → Int32) × (Nat → Int32) => some (.int _u.1)) (fun _u : Int32 × Int32 × Int32 × Int32 × Int32 × Int32 × Int32 × Int32 × Int32 × (Nat → Int32) × (Nat → Int32) × (Nat → Int32) × (Nat → Int32) × (Nat → Int32) × (Nat → Int32) × (Nat → Int32) × (Nat → Int32) × (Nat → Int32) × (Nat → Int32) => (wX10_city cI cB cZ cM cJ cK  a_t a_t_text a_t_corners a_t_streets a_t_ends a_t_time a_t_leaders a_t_home a_t_feet a_t_far a_t_now a_t_isKept a_t_tried a_t_row a_t_who a_t_then a_t_best a_t_seenAs a_t_seenAt a_t_plan t_trace _u.2.1 _u.2.2.1 _u.2.2.2.1 _u.2.2.2.2.1 _u.2.2.2.2.2.1 _u.2.2.2.2.2.2.1 t_rowLong t_homes t_bestValue _u.2.2.2.2.2.2.2.1 _u.2.2.2.2.2.2.2.2.1 t_text _u.2.2.2.2.2.2.2.2.2.1 _u.2.2.2.2.2.2.2.2.2.2.1 _u.2.2.2.2.2.2.2.2.2.2.2.1 _u.2.2.2.2.2.2.2.2.2.2.2.2.1 _u.2.2.2.2.2.2.2.2.2.2.2.2.2.1 _u.2.2.2.2.2.2.2.2.2.2.2.2.2.2.1 _u.2.2.2.2.2.2.2.2.2.2.2.2.2.2.2.1 _u.2.2.2.2.2.2.2.2.2.2.2.2.2.2.2.2.1 _u.2.2.2.2.2.2.2.2.2.2.2.2.2.2.2.2.2.1 _u.2.2.2.2.2.2.2.2.2.2.2.2.2.2.2.2.2.2)) := by
  refine g_start (cc := cX10_city) (maxL := 3) (ret := (some .int)) (by decide) rfl (Nat.le_of_ble_eq_true rfl) ?_
  intro F hf hF p e s m below meth c A ls S hK hA Wd hr hlk hnm hl
  have b88 : ∀ (K21 : Int32 → Int32 → Int32 → Int32 → Int32 → Int32 → Int32 → Int32 → (Nat → Int32) → (Nat → Int32) → (Nat → Int32) → (Nat → Int32) → (Nat → Int32) → (Nat → Int32) → (Nat → Int32) → (Nat → Int32) → (Nat → Int32) → (Nat → Int32) → Int32 → Option (Int32 × Int32 × Int32 × Int32 × Int32 × Int32 × Int32 × Int32 × Int32 × (Nat → Int32) × (Nat → Int32) × (Nat → Int32) × (Nat → Int32) × (Nat → Int32) × (Nat → Int32) × (Nat → Int32) × (Nat → Int32) × (Nat → Int32) × (Nat → Int32))) (hK21 : ∀ (t_typed t_at t_start t_sort t_value t_fault t_seen t_planMany : Int32) (t_corners t_streets t_ends t_time t_leaders t_home t_feet t_far t_now t_isKept : Nat → Int32) (x1 : Int32) (H1 : Heap) (locs1 : List Loc) (ls1 : Array Slot), gw D A s.heap (wX10_city cI cB cZ cM cJ cK  a_t a_t_text a_t_corners a_t_streets a_t_ends a_t_time a_t_leaders a_t_home a_t_feet a_t_far a_t_now a_t_isKept a_t_tried a_t_row a_t_who a_t_then a_t_best a_t_seenAs a_t_seenAt a_t_plan t_trace t_typed t_at t_start t_sort t_value t_fault t_rowLong t_homes t_bestValue t_seen t_planMany t_text t_corners t_streets t_ends t_time t_leaders t_home t_feet t_far t_now t_isKept) H1 locs1 → lv_has ls1 3 [(0, .ref a_t), (1, .int x1)] → F = K21 t_typed t_at t_start t_sort t_value t_fault t_seen t_planMany t_corners t_streets t_ends t_time t_leaders t_home t_feet t_far t_now t_isKept x1 → W p l e rmX10_city s m [.ref a_t].toArray below meth c H1 locs1 0 0 (MQ below (gQ F (fun _u : Int32 × Int32 × Int32 × Int32 × Int32 × Int32 × Int32 × Int32 × Int32 × (Nat → Int32) × (Nat → Int32) × (Nat → Int32) × (Nat → Int32) × (Nat → Int32) × (Nat → Int32) × (Nat → Int32) × (Nat → Int32) × (Nat → Int32) × (Nat → Int32) => some (.int _u.1)) (fun _u : Int32 × Int32 × Int32 × Int32 × Int32 × Int32 × Int32 × Int32 × Int32 × (Nat → Int32) × (Nat → Int32) × (Nat → Int32) × (Nat → Int32) × (Nat → Int32) × (Nat → Int32) × (Nat → Int32) × (Nat → Int32) × (Nat → Int32) × (Nat → Int32) => (wX10_city cI cB cZ cM cJ cK  a_t a_t_text a_t_corners a_t_streets a_t_ends a_t_time a_t_leaders a_t_home a_t_feet a_t_far a_t_now a_t_isKept a_t_tried a_t_row a_t_who a_t_then a_t_best a_t_seenAs a_t_seenAt a_t_plan t_trace _u.2.1 _u.2.2.1 _u.2.2.2.1 _u.2.2.2.2.1 _u.2.2.2.2.2.1 _u.2.2.2.2.2.2.1 t_rowLong t_homes t_bestValue _u.2.2.2.2.2.2.2.1 _u.2.2.2.2.2.2.2.2.1 t_text _u.2.2.2.2.2.2.2.2.2.1 _u.2.2.2.2.2.2.2.2.2.2.1 _u.2.2.2.2.2.2.2.2.2.2.2.1 _u.2.2.2.2.2.2.2.2.2.2.2.2.1 _u.2.2.2.2.2.2.2.2.2.2.2.2.2.1 _u.2.2.2.2.2.2.2.2.2.2.2.2.2.2.1 _u.2.2.2.2.2.2.2.2.2.2.2.2.2.2.2.1 _u.2.2.2.2.2.2.2.2.2.2.2.2.2.2.2.2.1 _u.2.2.2.2.2.2.2.2.2.2.2.2.2.2.2.2.2.1 _u.2.2.2.2.2.2.2.2.2.2.2.2.2.2.2.2.2.2)) D A) [.ref a_t].toArray s 0 0 A) (F0 m 21 ls1 [])) , ∀ (t_typed t_at t_start t_sort t_value t_fault t_seen t_planMany : Int32) (t_corners t_streets t_ends t_time t_leaders t_home t_feet t_far t_now t_isKept : Nat → Int32) (x1 : Int32) (H1 : Heap) (locs1 : List Loc) (ls1 : Array Slot), gw D A s.heap (wX10_city cI cB cZ cM cJ cK  a_t a_t_text a_t_corners a_t_streets a_t_ends a_t_time a_t_leaders a_t_home a_t_feet a_t_far a_t_now a_t_isKept a_t_tried a_t_row a_t_who a_t_then a_t_best a_t_seenAs a_t_seenAt a_t_plan t_trace t_typed t_at t_start t_sort t_value t_fault t_rowLong t_homes t_bestValue t_seen t_planMany t_text t_corners t_streets t_ends t_time t_leaders t_home t_feet t_far t_now t_isKept) H1 locs1 → lv_has ls1 3 [(0, .ref a_t), (1, .int x1)] → F = fX10_city_b88 N t_text K21 t_typed t_at t_start t_sort t_value t_fault t_seen t_planMany t_corners t_streets t_ends t_time t_leaders t_home t_feet t_far t_now t_isKept x1 → W p l e rmX10_city s m [.ref a_t].toArray below meth c H1 locs1 0 0 (MQ below (gQ F (fun _u : Int32 × Int32 × Int32 × Int32 × Int32 × Int32 × Int32 × Int32 × Int32 × (Nat → Int32) × (Nat → Int32) × (Nat → Int32) × (Nat → Int32) × (Nat → Int32) × (Nat → Int32) × (Nat → Int32) × (Nat → Int32) × (Nat → Int32) × (Nat → Int32) => some (.int _u.1)) (fun _u : Int32 × Int32 × Int32 × Int32 × Int32 × Int32 × Int32 × Int32 × Int32 × (Nat → Int32) × (Nat → Int32) × (Nat → Int32) × (Nat → Int32) × (Nat → Int32) × (Nat → Int32) × (Nat → Int32) × (Nat → Int32) × (Nat → Int32) × (Nat → Int32) => (wX10_city cI cB cZ cM cJ cK  a_t a_t_text a_t_corners a_t_streets a_t_ends a_t_time a_t_leaders a_t_home a_t_feet a_t_far a_t_now a_t_isKept a_t_tried a_t_row a_t_who a_t_then a_t_best a_t_seenAs a_t_seenAt a_t_plan t_trace _u.2.1 _u.2.2.1 _u.2.2.2.1 _u.2.2.2.2.1 _u.2.2.2.2.2.1 _u.2.2.2.2.2.2.1 t_rowLong t_homes t_bestValue _u.2.2.2.2.2.2.2.1 _u.2.2.2.2.2.2.2.2.1 t_text _u.2.2.2.2.2.2.2.2.2.1 _u.2.2.2.2.2.2.2.2.2.2.1 _u.2.2.2.2.2.2.2.2.2.2.2.1 _u.2.2.2.2.2.2.2.2.2.2.2.2.1 _u.2.2.2.2.2.2.2.2.2.2.2.2.2.1 _u.2.2.2.2.2.2.2.2.2.2.2.2.2.2.1 _u.2.2.2.2.2.2.2.2.2.2.2.2.2.2.2.1 _u.2.2.2.2.2.2.2.2.2.2.2.2.2.2.2.2.1 _u.2.2.2.2.2.2.2.2.2.2.2.2.2.2.2.2.2.1 _u.2.2.2.2.2.2.2.2.2.2.2.2.2.2.2.2.2.2)) D A) [.ref a_t].toArray s 0 0 A) (F0 m 88 ls1 []) := by
    intro K21 hK21 t_typed t_at t_start t_sort t_value t_fault t_seen t_planMany t_corners t_streets t_ends t_time t_leaders t_home t_feet t_far t_now t_isKept x1 H locs ls Wd hl hf
    refine lv_goto (tgt := 21) S.1 S.2.1 dX10_city_88 rfl ?_
    exact hK21 t_typed t_at t_start t_sort t_value t_fault t_seen t_planMany t_corners t_streets t_ends t_time t_leaders t_home t_feet t_far t_now t_isKept x1 _ _ _ Wd hl hf
  have b81 : ∀ (K21 : Int32 → Int32 → Int32 → Int32 → Int32 → Int32 → Int32 → Int32 → (Nat → Int32) → (Nat → Int32) → (Nat → Int32) → (Nat → Int32) → (Nat → Int32) → (Nat → Int32) → (Nat → Int32) → (Nat → Int32) → (Nat → Int32) → (Nat → Int32) → Int32 → Option (Int32 × Int32 × Int32 × Int32 × Int32 × Int32 × Int32 × Int32 × Int32 × (Nat → Int32) × (Nat → Int32) × (Nat → Int32) × (Nat → Int32) × (Nat → Int32) × (Nat → Int32) × (Nat → Int32) × (Nat → Int32) × (Nat → Int32) × (Nat → Int32))) (hK21 : ∀ (t_typed t_at t_start t_sort t_value t_fault t_seen t_planMany : Int32) (t_corners t_streets t_ends t_time t_leaders t_home t_feet t_far t_now t_isKept : Nat → Int32) (x1 : Int32) (H1 : Heap) (locs1 : List Loc) (ls1 : Array Slot), gw D A s.heap (wX10_city cI cB cZ cM cJ cK  a_t a_t_text a_t_corners a_t_streets a_t_ends a_t_time a_t_leaders a_t_home a_t_feet a_t_far a_t_now a_t_isKept a_t_tried a_t_row a_t_who a_t_then a_t_best a_t_seenAs a_t_seenAt a_t_plan t_trace t_typed t_at t_start t_sort t_value t_fault t_rowLong t_homes t_bestValue t_seen t_planMany t_text t_corners t_streets t_ends t_time t_leaders t_home t_feet t_far t_now t_isKept) H1 locs1 → lv_has ls1 3 [(0, .ref a_t), (1, .int x1)] → F = K21 t_typed t_at t_start t_sort t_value t_fault t_seen t_planMany t_corners t_streets t_ends t_time t_leaders t_home t_feet t_far t_now t_isKept x1 → W p l e rmX10_city s m [.ref a_t].toArray below meth c H1 locs1 0 0 (MQ below (gQ F (fun _u : Int32 × Int32 × Int32 × Int32 × Int32 × Int32 × Int32 × Int32 × Int32 × (Nat → Int32) × (Nat → Int32) × (Nat → Int32) × (Nat → Int32) × (Nat → Int32) × (Nat → Int32) × (Nat → Int32) × (Nat → Int32) × (Nat → Int32) × (Nat → Int32) => some (.int _u.1)) (fun _u : Int32 × Int32 × Int32 × Int32 × Int32 × Int32 × Int32 × Int32 × Int32 × (Nat → Int32) × (Nat → Int32) × (Nat → Int32) × (Nat → Int32) × (Nat → Int32) × (Nat → Int32) × (Nat → Int32) × (Nat → Int32) × (Nat → Int32) × (Nat → Int32) => (wX10_city cI cB cZ cM cJ cK  a_t a_t_text a_t_corners a_t_streets a_t_ends a_t_time a_t_leaders a_t_home a_t_feet a_t_far a_t_now a_t_isKept a_t_tried a_t_row a_t_who a_t_then a_t_best a_t_seenAs a_t_seenAt a_t_plan t_trace _u.2.1 _u.2.2.1 _u.2.2.2.1 _u.2.2.2.2.1 _u.2.2.2.2.2.1 _u.2.2.2.2.2.2.1 t_rowLong t_homes t_bestValue _u.2.2.2.2.2.2.2.1 _u.2.2.2.2.2.2.2.2.1 t_text _u.2.2.2.2.2.2.2.2.2.1 _u.2.2.2.2.2.2.2.2.2.2.1 _u.2.2.2.2.2.2.2.2.2.2.2.1 _u.2.2.2.2.2.2.2.2.2.2.2.2.1 _u.2.2.2.2.2.2.2.2.2.2.2.2.2.1 _u.2.2.2.2.2.2.2.2.2.2.2.2.2.2.1 _u.2.2.2.2.2.2.2.2.2.2.2.2.2.2.2.1 _u.2.2.2.2.2.2.2.2.2.2.2.2.2.2.2.2.1 _u.2.2.2.2.2.2.2.2.2.2.2.2.2.2.2.2.2.1 _u.2.2.2.2.2.2.2.2.2.2.2.2.2.2.2.2.2.2)) D A) [.ref a_t].toArray s 0 0 A) (F0 m 21 ls1 [])) , ∀ (t_typed t_at t_start t_sort t_value t_fault t_seen t_planMany : Int32) (t_corners t_streets t_ends t_time t_leaders t_home t_feet t_far t_now t_isKept : Nat → Int32) (x1 y0 : Int32) (H1 : Heap) (locs1 : List Loc) (ls1 : Array Slot), gw D A s.heap (wX10_city cI cB cZ cM cJ cK  a_t a_t_text a_t_corners a_t_streets a_t_ends a_t_time a_t_leaders a_t_home a_t_feet a_t_far a_t_now a_t_isKept a_t_tried a_t_row a_t_who a_t_then a_t_best a_t_seenAs a_t_seenAt a_t_plan t_trace t_typed t_at t_start t_sort t_value t_fault t_rowLong t_homes t_bestValue t_seen t_planMany t_text t_corners t_streets t_ends t_time t_leaders t_home t_feet t_far t_now t_isKept) H1 locs1 → lv_has ls1 3 [(0, .ref a_t), (1, .int x1)] → F = fX10_city_b81 N t_text K21 t_typed t_at t_start t_sort t_value t_fault t_seen t_planMany t_corners t_streets t_ends t_time t_leaders t_home t_feet t_far t_now t_isKept x1 y0 → W p l e rmX10_city s m [.ref a_t].toArray below meth c H1 locs1 0 0 (MQ below (gQ F (fun _u : Int32 × Int32 × Int32 × Int32 × Int32 × Int32 × Int32 × Int32 × Int32 × (Nat → Int32) × (Nat → Int32) × (Nat → Int32) × (Nat → Int32) × (Nat → Int32) × (Nat → Int32) × (Nat → Int32) × (Nat → Int32) × (Nat → Int32) × (Nat → Int32) => some (.int _u.1)) (fun _u : Int32 × Int32 × Int32 × Int32 × Int32 × Int32 × Int32 × Int32 × Int32 × (Nat → Int32) × (Nat → Int32) × (Nat → Int32) × (Nat → Int32) × (Nat → Int32) × (Nat → Int32) × (Nat → Int32) × (Nat → Int32) × (Nat → Int32) × (Nat → Int32) => (wX10_city cI cB cZ cM cJ cK  a_t a_t_text a_t_corners a_t_streets a_t_ends a_t_time a_t_leaders a_t_home a_t_feet a_t_far a_t_now a_t_isKept a_t_tried a_t_row a_t_who a_t_then a_t_best a_t_seenAs a_t_seenAt a_t_plan t_trace _u.2.1 _u.2.2.1 _u.2.2.2.1 _u.2.2.2.2.1 _u.2.2.2.2.2.1 _u.2.2.2.2.2.2.1 t_rowLong t_homes t_bestValue _u.2.2.2.2.2.2.2.1 _u.2.2.2.2.2.2.2.2.1 t_text _u.2.2.2.2.2.2.2.2.2.1 _u.2.2.2.2.2.2.2.2.2.2.1 _u.2.2.2.2.2.2.2.2.2.2.2.1 _u.2.2.2.2.2.2.2.2.2.2.2.2.1 _u.2.2.2.2.2.2.2.2.2.2.2.2.2.1 _u.2.2.2.2.2.2.2.2.2.2.2.2.2.2.1 _u.2.2.2.2.2.2.2.2.2.2.2.2.2.2.2.1 _u.2.2.2.2.2.2.2.2.2.2.2.2.2.2.2.2.1 _u.2.2.2.2.2.2.2.2.2.2.2.2.2.2.2.2.2.1 _u.2.2.2.2.2.2.2.2.2.2.2.2.2.2.2.2.2.2)) D A) [.ref a_t].toArray s 0 0 A) (F0 m 81 ls1 [.int y0, .ref a_t]) := by
    intro K21 hK21 t_typed t_at t_start t_sort t_value t_fault t_seen t_planMany t_corners t_streets t_ends t_time t_leaders t_home t_feet t_far t_now t_isKept x1 y0 H locs ls Wd hl hf
    obtain ⟨u10, hu10, hf⟩ := g_bind hF hf
    refine g_callV (ws' := (wX10_city cI cB cZ cM cJ cK  a_t a_t_text a_t_corners a_t_streets a_t_ends a_t_time a_t_leaders a_t_home a_t_feet a_t_far a_t_now a_t_isKept a_t_tried a_t_row a_t_who a_t_then a_t_best a_t_seenAs a_t_seenAt a_t_plan t_trace t_typed u10.2.1 u10.2.2.1 u10.2.2.2.1 u10.2.2.2.2.1 u10.2.2.2.2.2 t_rowLong t_homes t_bestValue t_seen t_planMany t_text t_corners t_streets t_ends t_time t_leaders t_home t_feet t_far t_now t_isKept)) (As := [.int y0]) (rest := []) (st1 := [.int u10.1]) S hK hA Wd (c_X10_due l D N cI cB cZ cM cJ cK a_t a_t_text a_t_corners a_t_streets a_t_ends a_t_time a_t_leaders a_t_home a_t_feet a_t_far a_t_now a_t_isKept a_t_tried a_t_row a_t_who a_t_then a_t_best a_t_seenAs a_t_seenAt a_t_plan t_trace t_typed t_at t_start t_sort t_value t_fault t_rowLong t_homes t_bestValue t_seen t_planMany t_text y0) (cwV 1 S.2.2.2.2 gX10_city_X10_due rfl rfl rfl n_X10_due ⟨Nat.le_of_ble_eq_true rfl, Nat.le_of_ble_eq_true rfl⟩) hu10 [0, 1] rfl rfl 0 10 rfl rfl rfl rfl rfl rfl rfl hl.1 rfl (Nat.le_of_ble_eq_true rfl) dX10_city_81 ⟨Nat.zero_le _, Nat.zero_le _⟩ (fun H locs Wd => ?_)
    refine lv_pop S.1 S.2.1 dX10_city_84 rfl ?_
    refine lv_iinc (v := (x1 + (1 : Int32))) (lv' := [(1, .int (x1 + (1 : Int32))), (0, .ref a_t)]) S.1 S.2.1 dX10_city_85 hl (k := 1) rfl rfl (by decide) rfl (fun ls hl => ?_)
    exact b88 K21 hK21 t_typed u10.2.1 u10.2.2.1 u10.2.2.2.1 u10.2.2.2.2.1 u10.2.2.2.2.2 t_seen t_planMany t_corners t_streets t_ends t_time t_leaders t_home t_feet t_far t_now t_isKept (x1 + (1 : Int32)) _ _ _ Wd (lv_sub hl [1, 0] rfl) hf
  have b91 : ∀ (t_typed t_at t_start t_sort t_value t_fault t_seen t_planMany : Int32) (t_corners t_streets t_ends t_time t_leaders t_home t_feet t_far t_now t_isKept : Nat → Int32) (x1 : Int32) (H1 : Heap) (locs1 : List Loc) (ls1 : Array Slot), gw D A s.heap (wX10_city cI cB cZ cM cJ cK  a_t a_t_text a_t_corners a_t_streets a_t_ends a_t_time a_t_leaders a_t_home a_t_feet a_t_far a_t_now a_t_isKept a_t_tried a_t_row a_t_who a_t_then a_t_best a_t_seenAs a_t_seenAt a_t_plan t_trace t_typed t_at t_start t_sort t_value t_fault t_rowLong t_homes t_bestValue t_seen t_planMany t_text t_corners t_streets t_ends t_time t_leaders t_home t_feet t_far t_now t_isKept) H1 locs1 → lv_has ls1 3 [(0, .ref a_t), (1, .int x1)] → F = fX10_city_b91 N t_text  t_typed t_at t_start t_sort t_value t_fault t_seen t_planMany t_corners t_streets t_ends t_time t_leaders t_home t_feet t_far t_now t_isKept x1 → W p l e rmX10_city s m [.ref a_t].toArray below meth c H1 locs1 0 0 (MQ below (gQ F (fun _u : Int32 × Int32 × Int32 × Int32 × Int32 × Int32 × Int32 × Int32 × Int32 × (Nat → Int32) × (Nat → Int32) × (Nat → Int32) × (Nat → Int32) × (Nat → Int32) × (Nat → Int32) × (Nat → Int32) × (Nat → Int32) × (Nat → Int32) × (Nat → Int32) => some (.int _u.1)) (fun _u : Int32 × Int32 × Int32 × Int32 × Int32 × Int32 × Int32 × Int32 × Int32 × (Nat → Int32) × (Nat → Int32) × (Nat → Int32) × (Nat → Int32) × (Nat → Int32) × (Nat → Int32) × (Nat → Int32) × (Nat → Int32) × (Nat → Int32) × (Nat → Int32) => (wX10_city cI cB cZ cM cJ cK  a_t a_t_text a_t_corners a_t_streets a_t_ends a_t_time a_t_leaders a_t_home a_t_feet a_t_far a_t_now a_t_isKept a_t_tried a_t_row a_t_who a_t_then a_t_best a_t_seenAs a_t_seenAt a_t_plan t_trace _u.2.1 _u.2.2.1 _u.2.2.2.1 _u.2.2.2.2.1 _u.2.2.2.2.2.1 _u.2.2.2.2.2.2.1 t_rowLong t_homes t_bestValue _u.2.2.2.2.2.2.2.1 _u.2.2.2.2.2.2.2.2.1 t_text _u.2.2.2.2.2.2.2.2.2.1 _u.2.2.2.2.2.2.2.2.2.2.1 _u.2.2.2.2.2.2.2.2.2.2.2.1 _u.2.2.2.2.2.2.2.2.2.2.2.2.1 _u.2.2.2.2.2.2.2.2.2.2.2.2.2.1 _u.2.2.2.2.2.2.2.2.2.2.2.2.2.2.1 _u.2.2.2.2.2.2.2.2.2.2.2.2.2.2.2.1 _u.2.2.2.2.2.2.2.2.2.2.2.2.2.2.2.2.1 _u.2.2.2.2.2.2.2.2.2.2.2.2.2.2.2.2.2.1 _u.2.2.2.2.2.2.2.2.2.2.2.2.2.2.2.2.2.2)) D A) [.ref a_t].toArray s 0 0 A) (F0 m 91 ls1 []) := by
    intro  t_typed t_at t_start t_sort t_value t_fault t_seen t_planMany t_corners t_streets t_ends t_time t_leaders t_home t_feet t_far t_now t_isKept x1 H locs ls Wd hl hf
    refine lv_aload_n S.1 S.2.1 dX10_city_91 rfl (lv_at hl 0 rfl) ?_
    refine g_get (a := a_t) S hK Wd iX10_city_X10 0 rfl rfl 14 rfl rfl kX10_city_2 rfl dX10_city_92 ?_
    refine lv_bipush (v := (-9)) S.1 S.2.1 dX10_city_95 (by decide) ?_
    refine lv_icmp_eq (tgt := 108) S.1 S.2.1 dX10_city_97 rfl (fun c11 => ?_) (fun c11 => ?_)
    · have hf := g_if hf c11
      refine lv_aload_n S.1 S.2.1 dX10_city_108 rfl (lv_at hl 0 rfl) ?_
      obtain ⟨u12, hu12, hf⟩ := g_bind hF hf
      refine g_callV (ws' := (wX10_city cI cB cZ cM cJ cK  a_t a_t_text a_t_corners a_t_streets a_t_ends a_t_time a_t_leaders a_t_home a_t_feet a_t_far a_t_now a_t_isKept a_t_tried a_t_row a_t_who a_t_then a_t_best a_t_seenAs a_t_seenAt a_t_plan t_trace t_typed t_at t_start t_sort t_value t_fault t_rowLong t_homes t_bestValue u12.1 u12.2.1 t_text u12.2.2.1 u12.2.2.2.1 u12.2.2.2.2.1 u12.2.2.2.2.2.1 u12.2.2.2.2.2.2.1 u12.2.2.2.2.2.2.2.1 u12.2.2.2.2.2.2.2.2.1 u12.2.2.2.2.2.2.2.2.2.1 u12.2.2.2.2.2.2.2.2.2.2.1 u12.2.2.2.2.2.2.2.2.2.2.2)) (As := []) (rest := []) (st1 := []) S hK hA Wd (c_X10_takeDraft l D N cI cB cZ cM cJ cK a_t a_t_text a_t_corners a_t_streets a_t_ends a_t_time a_t_leaders a_t_home a_t_feet a_t_far a_t_now a_t_isKept a_t_tried a_t_row a_t_who a_t_then a_t_best a_t_seenAs a_t_seenAt a_t_plan t_trace t_typed t_at t_start t_sort t_value t_fault t_rowLong t_homes t_bestValue t_seen t_planMany t_corners t_streets t_ends t_time t_leaders t_home t_feet t_far t_now t_isKept) (cwV 0 S.2.2.2.2 gX10_city_X10_takeDraft rfl rfl rfl n_X10_takeDraft ⟨Nat.le_of_ble_eq_true rfl, Nat.le_of_ble_eq_true rfl⟩) hu12 [0, 2, 3, 4, 5, 6, 7, 8, 9, 10, 11] rfl rfl 0 10 rfl rfl rfl rfl rfl rfl rfl hl.1 rfl (Nat.le_of_ble_eq_true rfl) dX10_city_109 ⟨Nat.zero_le _, Nat.zero_le _⟩ (fun H locs Wd => ?_)
      refine lv_aload_n S.1 S.2.1 dX10_city_112 rfl (lv_at hl 0 rfl) ?_
      refine lv_iconst (v := 0) S.1 S.2.1 dX10_city_113 (by decide) ?_
      refine g_put (a := a_t) (ws' := (wX10_city cI cB cZ cM cJ cK  a_t a_t_text a_t_corners a_t_streets a_t_ends a_t_time a_t_leaders a_t_home a_t_feet a_t_far a_t_now a_t_isKept a_t_tried a_t_row a_t_who a_t_then a_t_best a_t_seenAs a_t_seenAt a_t_plan t_trace (0 : Int32) t_at t_start t_sort t_value t_fault t_rowLong t_homes t_bestValue u12.1 u12.2.1 t_text u12.2.2.1 u12.2.2.2.1 u12.2.2.2.2.1 u12.2.2.2.2.2.1 u12.2.2.2.2.2.2.1 u12.2.2.2.2.2.2.2.1 u12.2.2.2.2.2.2.2.2.1 u12.2.2.2.2.2.2.2.2.2.1 u12.2.2.2.2.2.2.2.2.2.2.1 u12.2.2.2.2.2.2.2.2.2.2.2)) S hK Wd iX10_city_X10 tyX10 tyX10_ok nmX10 0 rfl rfl 2 rfl rfl kX10_city_4 rfl rfl rfl dX10_city_114 rfl (fun H locs Wd => ?_)
      refine lv_iload_n S.1 S.2.1 dX10_city_117 rfl (lv_at hl 1 rfl) ?_
      exact g_iret S Wd hr hlk dX10_city_118 (x1, (0 : Int32), t_at, t_start, t_sort, t_value, t_fault, u12.1, u12.2.1, u12.2.2.1, u12.2.2.2.1, u12.2.2.2.2.1, u12.2.2.2.2.2.1, u12.2.2.2.2.2.2.1, u12.2.2.2.2.2.2.2.1, u12.2.2.2.2.2.2.2.2.1, u12.2.2.2.2.2.2.2.2.2.1, u12.2.2.2.2.2.2.2.2.2.2.1, u12.2.2.2.2.2.2.2.2.2.2.2) hf rfl rfl
    · have hf := g_ifn hf c11
      refine lv_bipush (v := (-10)) S.1 S.2.1 dX10_city_100 (by decide) ?_
      refine lv_aload_n S.1 S.2.1 dX10_city_102 rfl (lv_at hl 0 rfl) ?_
      refine g_get (a := a_t) S hK Wd iX10_city_X10 0 rfl rfl 14 rfl rfl kX10_city_2 rfl dX10_city_103 ?_
      refine lv_isub S.1 S.2.1 dX10_city_106 ?_
      exact g_iret S Wd hr hlk dX10_city_107 (((-10 : Int32) - t_fault), t_typed, t_at, t_start, t_sort, t_value, t_fault, t_seen, t_planMany, t_corners, t_streets, t_ends, t_time, t_leaders, t_home, t_feet, t_far, t_now, t_isKept) hf rfl rfl
  have b21 : ∀ (n : Nat), ∀ (t_typed t_at t_start t_sort t_value t_fault t_seen t_planMany : Int32) (t_corners t_streets t_ends t_time t_leaders t_home t_feet t_far t_now t_isKept : Nat → Int32) (x1 : Int32) (H1 : Heap) (locs1 : List Loc) (ls1 : Array Slot), gw D A s.heap (wX10_city cI cB cZ cM cJ cK  a_t a_t_text a_t_corners a_t_streets a_t_ends a_t_time a_t_leaders a_t_home a_t_feet a_t_far a_t_now a_t_isKept a_t_tried a_t_row a_t_who a_t_then a_t_best a_t_seenAs a_t_seenAt a_t_plan t_trace t_typed t_at t_start t_sort t_value t_fault t_rowLong t_homes t_bestValue t_seen t_planMany t_text t_corners t_streets t_ends t_time t_leaders t_home t_feet t_far t_now t_isKept) H1 locs1 → lv_has ls1 3 [(0, .ref a_t), (1, .int x1)] → F = fX10_city_b21 N t_text  n t_typed t_at t_start t_sort t_value t_fault t_seen t_planMany t_corners t_streets t_ends t_time t_leaders t_home t_feet t_far t_now t_isKept x1 → W p l e rmX10_city s m [.ref a_t].toArray below meth c H1 locs1 0 0 (MQ below (gQ F (fun _u : Int32 × Int32 × Int32 × Int32 × Int32 × Int32 × Int32 × Int32 × Int32 × (Nat → Int32) × (Nat → Int32) × (Nat → Int32) × (Nat → Int32) × (Nat → Int32) × (Nat → Int32) × (Nat → Int32) × (Nat → Int32) × (Nat → Int32) × (Nat → Int32) => some (.int _u.1)) (fun _u : Int32 × Int32 × Int32 × Int32 × Int32 × Int32 × Int32 × Int32 × Int32 × (Nat → Int32) × (Nat → Int32) × (Nat → Int32) × (Nat → Int32) × (Nat → Int32) × (Nat → Int32) × (Nat → Int32) × (Nat → Int32) × (Nat → Int32) × (Nat → Int32) => (wX10_city cI cB cZ cM cJ cK  a_t a_t_text a_t_corners a_t_streets a_t_ends a_t_time a_t_leaders a_t_home a_t_feet a_t_far a_t_now a_t_isKept a_t_tried a_t_row a_t_who a_t_then a_t_best a_t_seenAs a_t_seenAt a_t_plan t_trace _u.2.1 _u.2.2.1 _u.2.2.2.1 _u.2.2.2.2.1 _u.2.2.2.2.2.1 _u.2.2.2.2.2.2.1 t_rowLong t_homes t_bestValue _u.2.2.2.2.2.2.2.1 _u.2.2.2.2.2.2.2.2.1 t_text _u.2.2.2.2.2.2.2.2.2.1 _u.2.2.2.2.2.2.2.2.2.2.1 _u.2.2.2.2.2.2.2.2.2.2.2.1 _u.2.2.2.2.2.2.2.2.2.2.2.2.1 _u.2.2.2.2.2.2.2.2.2.2.2.2.2.1 _u.2.2.2.2.2.2.2.2.2.2.2.2.2.2.1 _u.2.2.2.2.2.2.2.2.2.2.2.2.2.2.2.1 _u.2.2.2.2.2.2.2.2.2.2.2.2.2.2.2.2.1 _u.2.2.2.2.2.2.2.2.2.2.2.2.2.2.2.2.2.1 _u.2.2.2.2.2.2.2.2.2.2.2.2.2.2.2.2.2.2)) D A) [.ref a_t].toArray s 0 0 A) (F0 m 21 ls1 []) := by
    intro  n
    induction n with
    | zero => intro t_typed t_at t_start t_sort t_value t_fault t_seen t_planMany t_corners t_streets t_ends t_time t_leaders t_home t_feet t_far t_now t_isKept x1 H locs ls Wd hl hf; exact absurd hf hF
    | succ n ih =>
      intro t_typed t_at t_start t_sort t_value t_fault t_seen t_planMany t_corners t_streets t_ends t_time t_leaders t_home t_feet t_far t_now t_isKept x1 H locs ls Wd hl hf
      refine lv_aload_n S.1 S.2.1 dX10_city_21 rfl (lv_at hl 0 rfl) ?_
      refine g_get (a := a_t) S hK Wd iX10_city_X10 0 rfl rfl 14 rfl rfl kX10_city_2 rfl dX10_city_22 ?_
      refine lv_bipush (v := (-9)) S.1 S.2.1 dX10_city_25 (by decide) ?_
      refine lv_icmp_ne (tgt := 91) S.1 S.2.1 dX10_city_27 rfl (fun c3 => ?_) (fun c3 => ?_)
      · have hf := g_ifn hf c3
        exact b91  t_typed t_at t_start t_sort t_value t_fault t_seen t_planMany t_corners t_streets t_ends t_time t_leaders t_home t_feet t_far t_now t_isKept x1 _ _ _ Wd hl hf
      · have hf := g_if hf c3
        refine lv_aload_n S.1 S.2.1 dX10_city_30 rfl (lv_at hl 0 rfl) ?_
        refine g_get (a := a_t) S hK Wd iX10_city_X10 0 rfl rfl 12 rfl rfl kX10_city_3 rfl dX10_city_31 ?_
        refine lv_iconst (v := 3) S.1 S.2.1 dX10_city_34 (by decide) ?_
        refine lv_icmp_eq (tgt := 91) S.1 S.2.1 dX10_city_35 rfl (fun c4 => ?_) (fun c4 => ?_)
        · have hf := g_if hf c4
          exact b91  t_typed t_at t_start t_sort t_value t_fault t_seen t_planMany t_corners t_streets t_ends t_time t_leaders t_home t_feet t_far t_now t_isKept x1 _ _ _ Wd hl hf
        · have hf := g_ifn hf c4
          refine lv_aload_n S.1 S.2.1 dX10_city_38 rfl (lv_at hl 0 rfl) ?_
          refine g_get (a := a_t) S hK Wd iX10_city_X10 0 rfl rfl 12 rfl rfl kX10_city_3 rfl dX10_city_39 ?_
          refine lv_istore_n (lv' := [(2, .int t_sort), (0, .ref a_t), (1, .int x1)]) S.1 S.2.1 dX10_city_42 rfl hl (by decide) rfl (fun ls hl => ?_)
          refine lv_aload_n S.1 S.2.1 dX10_city_43 rfl (lv_at hl 1 rfl) ?_
          refine lv_aload_n S.1 S.2.1 dX10_city_44 rfl (lv_at hl 1 rfl) ?_
          refine lv_iload_n S.1 S.2.1 dX10_city_45 rfl (lv_at hl 0 rfl) ?_
          obtain ⟨u5, hu5, hf⟩ := g_bind hF hf
          refine g_callV (ws' := (wX10_city cI cB cZ cM cJ cK  a_t a_t_text a_t_corners a_t_streets a_t_ends a_t_time a_t_leaders a_t_home a_t_feet a_t_far a_t_now a_t_isKept a_t_tried a_t_row a_t_who a_t_then a_t_best a_t_seenAs a_t_seenAt a_t_plan t_trace t_typed t_at t_start t_sort t_value t_fault t_rowLong t_homes t_bestValue t_seen t_planMany t_text t_corners t_streets t_ends t_time t_leaders t_home t_feet t_far t_now t_isKept)) (As := [.int t_sort]) (rest := [.ref a_t]) (st1 := [.int u5, .ref a_t]) S hK hA Wd (c_X10_mayBe l D N cI cB cZ cM cJ cK a_t a_t_text a_t_corners a_t_streets a_t_ends a_t_time a_t_leaders a_t_home a_t_feet a_t_far a_t_now a_t_isKept a_t_tried a_t_row a_t_who a_t_then a_t_best a_t_seenAs a_t_seenAt a_t_plan t_trace t_typed t_at t_start t_sort t_value t_fault t_rowLong t_homes t_bestValue t_seen t_planMany t_corners t_streets t_leaders t_sort) (cwV 1 S.2.2.2.2 gX10_city_X10_mayBe rfl rfl rfl n_X10_mayBe ⟨Nat.le_of_ble_eq_true rfl, Nat.le_of_ble_eq_true rfl⟩) hu5 [0, 2, 3, 6] rfl rfl 0 10 rfl rfl rfl rfl rfl rfl rfl hl.1 rfl (Nat.le_of_ble_eq_true rfl) dX10_city_46 ⟨Nat.zero_le _, Nat.zero_le _⟩ (fun H locs Wd => ?_)
          obtain ⟨u6, hu6, hf⟩ := g_bind hF hf
          refine g_callV (ws' := (wX10_city cI cB cZ cM cJ cK  a_t a_t_text a_t_corners a_t_streets a_t_ends a_t_time a_t_leaders a_t_home a_t_feet a_t_far a_t_now a_t_isKept a_t_tried a_t_row a_t_who a_t_then a_t_best a_t_seenAs a_t_seenAt a_t_plan t_trace t_typed u6.2.1 u6.2.2.1 u6.2.2.2.1 u6.2.2.2.2.1 u6.2.2.2.2.2 t_rowLong t_homes t_bestValue t_seen t_planMany t_text t_corners t_streets t_ends t_time t_leaders t_home t_feet t_far t_now t_isKept)) (As := [.int u5]) (rest := []) (st1 := [.int u6.1]) S hK hA Wd (c_X10_due l D N cI cB cZ cM cJ cK a_t a_t_text a_t_corners a_t_streets a_t_ends a_t_time a_t_leaders a_t_home a_t_feet a_t_far a_t_now a_t_isKept a_t_tried a_t_row a_t_who a_t_then a_t_best a_t_seenAs a_t_seenAt a_t_plan t_trace t_typed t_at t_start t_sort t_value t_fault t_rowLong t_homes t_bestValue t_seen t_planMany t_text u5) (cwV 1 S.2.2.2.2 gX10_city_X10_due rfl rfl rfl n_X10_due ⟨Nat.le_of_ble_eq_true rfl, Nat.le_of_ble_eq_true rfl⟩) hu6 [0, 1] rfl rfl 0 10 rfl rfl rfl rfl rfl rfl rfl hl.1 rfl (Nat.le_of_ble_eq_true rfl) dX10_city_49 ⟨Nat.zero_le _, Nat.zero_le _⟩ (fun H locs Wd => ?_)
          refine lv_pop S.1 S.2.1 dX10_city_52 rfl ?_
          refine lv_aload_n S.1 S.2.1 dX10_city_53 rfl (lv_at hl 1 rfl) ?_
          refine g_get (a := a_t) S hK Wd iX10_city_X10 0 rfl rfl 14 rfl rfl kX10_city_2 rfl dX10_city_54 ?_
          refine lv_bipush (v := (-9)) S.1 S.2.1 dX10_city_57 (by decide) ?_
          refine lv_icmp_ne (tgt := 88) S.1 S.2.1 dX10_city_59 rfl (fun c7 => ?_) (fun c7 => ?_)
          · have hf := g_ifn hf c7
            exact b88 (fun t_typed t_at t_start t_sort t_value t_fault t_seen t_planMany t_corners t_streets t_ends t_time t_leaders t_home t_feet t_far t_now t_isKept x1 => fX10_city_b21 N t_text n t_typed t_at t_start t_sort t_value t_fault t_seen t_planMany t_corners t_streets t_ends t_time t_leaders t_home t_feet t_far t_now t_isKept x1) ih t_typed u6.2.1 u6.2.2.1 u6.2.2.2.1 u6.2.2.2.2.1 u6.2.2.2.2.2 t_seen t_planMany t_corners t_streets t_ends t_time t_leaders t_home t_feet t_far t_now t_isKept x1 _ _ _ Wd (lv_sub hl [1, 2] rfl) hf
          · have hf := g_if hf c7
            refine lv_aload_n S.1 S.2.1 dX10_city_62 rfl (lv_at hl 1 rfl) ?_
            refine lv_iload_n S.1 S.2.1 dX10_city_63 rfl (lv_at hl 0 rfl) ?_
            obtain ⟨u8, hu8, hf⟩ := g_bind hF hf
            refine g_callV (ws' := (wX10_city cI cB cZ cM cJ cK  a_t a_t_text a_t_corners a_t_streets a_t_ends a_t_time a_t_leaders a_t_home a_t_feet a_t_far a_t_now a_t_isKept a_t_tried a_t_row a_t_who a_t_then a_t_best a_t_seenAs a_t_seenAt a_t_plan t_trace t_typed u8.1 u8.2.1 u8.2.2.1 u8.2.2.2.1 u8.2.2.2.2.1 t_rowLong t_homes t_bestValue t_seen t_planMany t_text u8.2.2.2.2.2.1 u8.2.2.2.2.2.2.1 u8.2.2.2.2.2.2.2.1 u8.2.2.2.2.2.2.2.2.1 u8.2.2.2.2.2.2.2.2.2.1 u8.2.2.2.2.2.2.2.2.2.2.1 u8.2.2.2.2.2.2.2.2.2.2.2 t_far t_now t_isKept)) (As := [.int t_sort]) (rest := []) (st1 := []) S hK hA Wd (c_X10_readRow l D N cI cB cZ cM cJ cK a_t a_t_text a_t_corners a_t_streets a_t_ends a_t_time a_t_leaders a_t_home a_t_feet a_t_far a_t_now a_t_isKept a_t_tried a_t_row a_t_who a_t_then a_t_best a_t_seenAs a_t_seenAt a_t_plan t_trace t_typed u6.2.1 u6.2.2.1 u6.2.2.2.1 u6.2.2.2.2.1 u6.2.2.2.2.2 t_rowLong t_homes t_bestValue t_seen t_planMany t_text t_corners t_streets t_ends t_time t_leaders t_home t_feet t_sort) (cwV 1 S.2.2.2.2 gX10_city_X10_readRow rfl rfl rfl n_X10_readRow ⟨Nat.le_of_ble_eq_true rfl, Nat.le_of_ble_eq_true rfl⟩) hu8 [0, 1, 2, 3, 4, 5, 6, 7, 8] rfl rfl 0 10 rfl rfl rfl rfl rfl rfl rfl hl.1 rfl (Nat.le_of_ble_eq_true rfl) dX10_city_64 ⟨Nat.zero_le _, Nat.zero_le _⟩ (fun H locs Wd => ?_)
            refine lv_aload_n S.1 S.2.1 dX10_city_67 rfl (lv_at hl 1 rfl) ?_
            refine lv_aload_n S.1 S.2.1 dX10_city_68 rfl (lv_at hl 1 rfl) ?_
            refine g_get (a := a_t) S hK Wd iX10_city_X10 0 rfl rfl 12 rfl rfl kX10_city_3 rfl dX10_city_69 ?_
            refine lv_iconst (v := 2) S.1 S.2.1 dX10_city_72 (by decide) ?_
            refine lv_icmp_ne (tgt := 80) S.1 S.2.1 dX10_city_73 rfl (fun c9 => ?_) (fun c9 => ?_)
            · have hf := g_ifn hf c9
              refine lv_iconst (v := 0) S.1 S.2.1 dX10_city_80 (by decide) ?_
              exact b81 (fun t_typed t_at t_start t_sort t_value t_fault t_seen t_planMany t_corners t_streets t_ends t_time t_leaders t_home t_feet t_far t_now t_isKept x1 => fX10_city_b21 N t_text n t_typed t_at t_start t_sort t_value t_fault t_seen t_planMany t_corners t_streets t_ends t_time t_leaders t_home t_feet t_far t_now t_isKept x1) ih t_typed u8.1 u8.2.1 u8.2.2.1 u8.2.2.2.1 u8.2.2.2.2.1 t_seen t_planMany u8.2.2.2.2.2.1 u8.2.2.2.2.2.2.1 u8.2.2.2.2.2.2.2.1 u8.2.2.2.2.2.2.2.2.1 u8.2.2.2.2.2.2.2.2.2.1 u8.2.2.2.2.2.2.2.2.2.2.1 u8.2.2.2.2.2.2.2.2.2.2.2 t_far t_now t_isKept x1 (0 : Int32) _ _ _ Wd (lv_sub hl [1, 2] rfl) hf
            · have hf := g_if hf c9
              refine lv_iconst (v := 1) S.1 S.2.1 dX10_city_76 (by decide) ?_
              refine lv_goto (tgt := 81) S.1 S.2.1 dX10_city_77 rfl ?_
              exact b81 (fun t_typed t_at t_start t_sort t_value t_fault t_seen t_planMany t_corners t_streets t_ends t_time t_leaders t_home t_feet t_far t_now t_isKept x1 => fX10_city_b21 N t_text n t_typed t_at t_start t_sort t_value t_fault t_seen t_planMany t_corners t_streets t_ends t_time t_leaders t_home t_feet t_far t_now t_isKept x1) ih t_typed u8.1 u8.2.1 u8.2.2.1 u8.2.2.2.1 u8.2.2.2.2.1 t_seen t_planMany u8.2.2.2.2.2.1 u8.2.2.2.2.2.2.1 u8.2.2.2.2.2.2.2.1 u8.2.2.2.2.2.2.2.2.1 u8.2.2.2.2.2.2.2.2.2.1 u8.2.2.2.2.2.2.2.2.2.2.1 u8.2.2.2.2.2.2.2.2.2.2.2 t_far t_now t_isKept x1 (1 : Int32) _ _ _ Wd (lv_sub hl [1, 2] rfl) hf
  refine lv_aload_n S.1 S.2.1 dX10_city_0 rfl (lv_at hl 0 rfl) ?_
  refine lv_iconst (v := 0) S.1 S.2.1 dX10_city_1 (by decide) ?_
  refine g_put (a := a_t) (ws' := (wX10_city cI cB cZ cM cJ cK  a_t a_t_text a_t_corners a_t_streets a_t_ends a_t_time a_t_leaders a_t_home a_t_feet a_t_far a_t_now a_t_isKept a_t_tried a_t_row a_t_who a_t_then a_t_best a_t_seenAs a_t_seenAt a_t_plan t_trace t_typed (0 : Int32) t_start t_sort t_value t_fault t_rowLong t_homes t_bestValue t_seen t_planMany t_text t_corners t_streets t_ends t_time t_leaders t_home t_feet t_far t_now t_isKept)) S hK Wd iX10_city_X10 tyX10 tyX10_ok nmX10 0 rfl rfl 10 rfl rfl kX10_city_1 rfl rfl rfl dX10_city_2 rfl (fun H locs Wd => ?_)
  refine lv_aload_n S.1 S.2.1 dX10_city_5 rfl (lv_at hl 0 rfl) ?_
  refine lv_bipush (v := (-9)) S.1 S.2.1 dX10_city_6 (by decide) ?_
  refine g_put (a := a_t) (ws' := (wX10_city cI cB cZ cM cJ cK  a_t a_t_text a_t_corners a_t_streets a_t_ends a_t_time a_t_leaders a_t_home a_t_feet a_t_far a_t_now a_t_isKept a_t_tried a_t_row a_t_who a_t_then a_t_best a_t_seenAs a_t_seenAt a_t_plan t_trace t_typed (0 : Int32) t_start t_sort t_value (-9 : Int32) t_rowLong t_homes t_bestValue t_seen t_planMany t_text t_corners t_streets t_ends t_time t_leaders t_home t_feet t_far t_now t_isKept)) S hK Wd iX10_city_X10 tyX10 tyX10_ok nmX10 0 rfl rfl 14 rfl rfl kX10_city_2 rfl rfl rfl dX10_city_8 rfl (fun H locs Wd => ?_)
  refine lv_aload_n S.1 S.2.1 dX10_city_11 rfl (lv_at hl 0 rfl) ?_
  obtain ⟨u1, hu1, hf⟩ := g_bind hF hf
  refine g_callV (ws' := (wX10_city cI cB cZ cM cJ cK  a_t a_t_text a_t_corners a_t_streets a_t_ends a_t_time a_t_leaders a_t_home a_t_feet a_t_far a_t_now a_t_isKept a_t_tried a_t_row a_t_who a_t_then a_t_best a_t_seenAs a_t_seenAt a_t_plan t_trace t_typed (0 : Int32) t_start t_sort t_value (-9 : Int32) t_rowLong t_homes t_bestValue t_seen t_planMany t_text u1.1 u1.2.1 t_ends t_time u1.2.2 t_home t_feet t_far t_now t_isKept)) (As := []) (rest := []) (st1 := []) S hK hA Wd (c_X10_plain l D N cI cB cZ cM cJ cK a_t a_t_text a_t_corners a_t_streets a_t_ends a_t_time a_t_leaders a_t_home a_t_feet a_t_far a_t_now a_t_isKept a_t_tried a_t_row a_t_who a_t_then a_t_best a_t_seenAs a_t_seenAt a_t_plan t_trace t_typed (0 : Int32) t_start t_sort t_value (-9 : Int32) t_rowLong t_homes t_bestValue t_seen t_planMany t_corners t_streets t_leaders) (cwV 0 S.2.2.2.2 gX10_city_X10_plain rfl rfl rfl n_X10_plain ⟨Nat.le_of_ble_eq_true rfl, Nat.le_of_ble_eq_true rfl⟩) hu1 [0, 2, 3, 6] rfl rfl 0 10 rfl rfl rfl rfl rfl rfl rfl hl.1 rfl (Nat.le_of_ble_eq_true rfl) dX10_city_12 ⟨Nat.zero_le _, Nat.zero_le _⟩ (fun H locs Wd => ?_)
  refine lv_iconst (v := 0) S.1 S.2.1 dX10_city_15 (by decide) ?_
  refine lv_istore_n (lv' := [(1, .int (0 : Int32)), (0, .ref a_t)]) S.1 S.2.1 dX10_city_16 rfl hl (by decide) rfl (fun ls hl => ?_)
  refine lv_aload_n S.1 S.2.1 dX10_city_17 rfl (lv_at hl 1 rfl) ?_
  obtain ⟨u2, hu2, hf⟩ := g_bind hF hf
  refine g_callV (ws' := (wX10_city cI cB cZ cM cJ cK  a_t a_t_text a_t_corners a_t_streets a_t_ends a_t_time a_t_leaders a_t_home a_t_feet a_t_far a_t_now a_t_isKept a_t_tried a_t_row a_t_who a_t_then a_t_best a_t_seenAs a_t_seenAt a_t_plan t_trace t_typed u2.1 u2.2.1 u2.2.2.1 u2.2.2.2 (-9 : Int32) t_rowLong t_homes t_bestValue t_seen t_planMany t_text u1.1 u1.2.1 t_ends t_time u1.2.2 t_home t_feet t_far t_now t_isKept)) (As := []) (rest := []) (st1 := []) S hK hA Wd (c_X10_step l D N cI cB cZ cM cJ cK a_t a_t_text a_t_corners a_t_streets a_t_ends a_t_time a_t_leaders a_t_home a_t_feet a_t_far a_t_now a_t_isKept a_t_tried a_t_row a_t_who a_t_then a_t_best a_t_seenAs a_t_seenAt a_t_plan t_trace t_typed (0 : Int32) t_start t_sort t_value (-9 : Int32) t_rowLong t_homes t_bestValue t_seen t_planMany t_text) (cwV 0 S.2.2.2.2 gX10_city_X10_step rfl rfl rfl n_X10_step ⟨Nat.le_of_ble_eq_true rfl, Nat.le_of_ble_eq_true rfl⟩) hu2 [0, 1] rfl rfl 0 10 rfl rfl rfl rfl rfl rfl rfl hl.1 rfl (Nat.le_of_ble_eq_true rfl) dX10_city_18 ⟨Nat.zero_le _, Nat.zero_le _⟩ (fun H locs Wd => ?_)
  exact b21  N t_typed u2.1 u2.2.1 u2.2.2.1 u2.2.2.2 (-9 : Int32) t_seen t_planMany u1.1 u1.2.1 t_ends t_time u1.2.2 t_home t_feet t_far t_now t_isKept (0 : Int32) _ _ _ Wd (lv_sub hl [1, 0] rfl) hf
def wX10_isStreet (cI cB cZ cM cJ cK : ClassId) (a_t a_t_text a_t_corners a_t_streets a_t_ends a_t_time a_t_leaders a_t_home a_t_feet a_t_far a_t_now a_t_isKept a_t_tried a_t_row a_t_who a_t_then a_t_best a_t_seenAs a_t_seenAt a_t_plan : Nat) (t_trace : Int64) (t_typed t_at t_start t_sort t_value t_fault t_rowLong t_homes t_bestValue t_seen t_planMany : Int32) (t_streets : Nat → Int32) : List va_W := [[(a_t, .inr (10, [.long t_trace, .ref a_t_text, .int t_typed, .ref a_t_corners, .ref a_t_streets, .ref a_t_ends, .ref a_t_time, .ref a_t_leaders, .ref a_t_home, .ref a_t_feet, .int t_at, .int t_start, .int t_sort, .int t_value, .int t_fault, .ref a_t_far, .ref a_t_now, .ref a_t_isKept, .ref a_t_tried, .ref a_t_row, .int t_rowLong, .ref a_t_who, .ref a_t_then, .int t_homes, .ref a_t_best, .int t_bestValue, .ref a_t_seenAs, .ref a_t_seenAt, .int t_seen, .ref a_t_plan, .int t_planMany]))], [(a_t_streets, .inl (cI, 2, .inl t_streets))]]
def rmX10_isStreet : Room := { frames := 1, cells := 0, slots := 0, locals := 22 }
theorem kX10_isStreet_1 : Cond.fieldLink RX10 17 "FeastMarchModel" "streets" "[I" ∈ wsX10_isStreet := List.mem_of_getElem? (i := 1) rfl
theorem iX10_isStreet_X10 : ∀ w ∈ wsX100, w ∈ wsX10_isStreet := fun _ h => List.mem_cons_of_mem _ (List.mem_append_right _ h)
theorem n_X10_isStreet : yX10_isStreet.cls = RX10 ∧ yX10_isStreet.cls ≠ "java/lang/invoke/MethodHandle" ∧ yX10_isStreet.cls ≠ "java/lang/invoke/VarHandle" ∧ (parseMethodDescriptor yX10_isStreet.desc).map (fun d => d.parameters.length) = some 1 := by decide +kernel
set_option maxHeartbeats 4000000 in
set_option maxRecDepth 100000 in
theorem c_X10_isStreet (l : Launch) (D : va_G) (N : Nat) (cI cB cZ cM cJ cK : ClassId) (a_t a_t_text a_t_corners a_t_streets a_t_ends a_t_time a_t_leaders a_t_home a_t_feet a_t_far a_t_now a_t_isKept a_t_tried a_t_row a_t_who a_t_then a_t_best a_t_seenAs a_t_seenAt a_t_plan : Nat) (t_trace : Int64) (t_typed t_at t_start t_sort t_value t_fault t_rowLong t_homes t_bestValue t_seen t_planMany : Int32) (t_streets : Nat → Int32) (x1 : Int32) : gM l yX10_isStreet wsX10_isStreet rmX10_isStreet D (gT cI cB cZ cM cJ cK) (wX10_isStreet cI cB cZ cM cJ cK  a_t a_t_text a_t_corners a_t_streets a_t_ends a_t_time a_t_leaders a_t_home a_t_feet a_t_far a_t_now a_t_isKept a_t_tried a_t_row a_t_who a_t_then a_t_best a_t_seenAs a_t_seenAt a_t_plan t_trace t_typed t_at t_start t_sort t_value t_fault t_rowLong t_homes t_bestValue t_seen t_planMany t_streets) [.ref a_t, .int x1] (fX10_isStreet N t_streets x1) (fun _u : Int32 => some (.int _u)) (fun _u : Int32 => (wX10_isStreet cI cB cZ cM cJ cK  a_t a_t_text a_t_corners a_t_streets a_t_ends a_t_time a_t_leaders a_t_home a_t_feet a_t_far a_t_now a_t_isKept a_t_tried a_t_row a_t_who a_t_then a_t_best a_t_seenAs a_t_seenAt a_t_plan t_trace t_typed t_at t_start t_sort t_value t_fault t_rowLong t_homes t_bestValue t_seen t_planMany t_streets)) := by
  refine g_start (cc := cX10_isStreet) (maxL := 2) (ret := (some .boolean)) (by decide) rfl (Nat.le_of_ble_eq_true rfl) ?_
  intro F hf hF p e s m below meth c A ls S hK hA Wd hr hlk hnm hl
  refine lv_iload_n S.1 S.2.1 dX10_isStreet_0 rfl (lv_at hl 1 rfl) ?_
  refine lv_iconst (v := 0) S.1 S.2.1 dX10_isStreet_1 (by decide) ?_
  refine lv_aload_n S.1 S.2.1 dX10_isStreet_2 rfl (lv_at hl 0 rfl) ?_
  refine g_get (a := a_t) S hK Wd iX10_isStreet_X10 0 rfl rfl 4 rfl rfl kX10_isStreet_1 rfl dX10_isStreet_3 ?_
  refine lv_iconst (v := 0) S.1 S.2.1 dX10_isStreet_6 (by decide) ?_
  refine g_iald (a := a_t_streets) S hK Wd 1 0 rfl rfl (show ¬ (((0 : Int32) < 0) ∨ 2 ≤ Int32.toNatClampNeg (0 : Int32)) from by decide) dX10_isStreet_7 ?_
  refine lv_iconst (v := 1) S.1 S.2.1 dX10_isStreet_8 (by decide) ?_
  refine lv_isub S.1 S.2.1 dX10_isStreet_9 ?_
  obtain ⟨u1, hu1, hf⟩ := g_bind hF hf
  refine g_callS (ws' := (wX10_isStreet cI cB cZ cM cJ cK  a_t a_t_text a_t_corners a_t_streets a_t_ends a_t_time a_t_leaders a_t_home a_t_feet a_t_far a_t_now a_t_isKept a_t_tried a_t_row a_t_who a_t_then a_t_best a_t_seenAs a_t_seenAt a_t_plan t_trace t_typed t_at t_start t_sort t_value t_fault t_rowLong t_homes t_bestValue t_seen t_planMany t_streets)) (As := [.int x1, .int (0 : Int32), .int ((t_streets (0 : Int32).toNatClampNeg) - (1 : Int32))]) (rest := []) (st1 := [.int u1]) S hK hA Wd (c_X10_in l D N cI cB cZ cM cJ cK x1 (0 : Int32) ((t_streets (0 : Int32).toNatClampNeg) - (1 : Int32))) (va_cwS 3 S.2.2.2.2 gX10_isStreet_X10_in rfl rfl rfl n_X10_in ⟨Nat.le_of_ble_eq_true rfl, Nat.le_of_ble_eq_true rfl⟩) hu1 [] rfl rfl rfl rfl rfl rfl hl.1 rfl (Nat.le_of_ble_eq_true rfl) dX10_isStreet_10 ⟨Nat.zero_le _, Nat.zero_le _⟩ (fun H locs Wd => ?_)
  obtain ⟨h2, hf⟩ := g_gc hF hf
  exact g_zret S Wd hr hlk (congrArg Value.int h2) dX10_isStreet_13 u1 hf rfl rfl
def wX10_isLeader (cI cB cZ cM cJ cK : ClassId) (a_t a_t_text a_t_corners a_t_streets a_t_ends a_t_time a_t_leaders a_t_home a_t_feet a_t_far a_t_now a_t_isKept a_t_tried a_t_row a_t_who a_t_then a_t_best a_t_seenAs a_t_seenAt a_t_plan : Nat) (t_trace : Int64) (t_typed t_at t_start t_sort t_value t_fault t_rowLong t_homes t_bestValue t_seen t_planMany : Int32) (t_leaders : Nat → Int32) : List va_W := [[(a_t, .inr (10, [.long t_trace, .ref a_t_text, .int t_typed, .ref a_t_corners, .ref a_t_streets, .ref a_t_ends, .ref a_t_time, .ref a_t_leaders, .ref a_t_home, .ref a_t_feet, .int t_at, .int t_start, .int t_sort, .int t_value, .int t_fault, .ref a_t_far, .ref a_t_now, .ref a_t_isKept, .ref a_t_tried, .ref a_t_row, .int t_rowLong, .ref a_t_who, .ref a_t_then, .int t_homes, .ref a_t_best, .int t_bestValue, .ref a_t_seenAs, .ref a_t_seenAt, .int t_seen, .ref a_t_plan, .int t_planMany]))], [(a_t_leaders, .inl (cI, 2, .inl t_leaders))]]
def rmX10_isLeader : Room := { frames := 1, cells := 0, slots := 0, locals := 22 }
theorem kX10_isLeader_1 : Cond.fieldLink RX10 26 "FeastMarchModel" "leaders" "[I" ∈ wsX10_isLeader := List.mem_of_getElem? (i := 1) rfl
theorem iX10_isLeader_X10 : ∀ w ∈ wsX100, w ∈ wsX10_isLeader := fun _ h => List.mem_cons_of_mem _ (List.mem_append_right _ h)
theorem n_X10_isLeader : yX10_isLeader.cls = RX10 ∧ yX10_isLeader.cls ≠ "java/lang/invoke/MethodHandle" ∧ yX10_isLeader.cls ≠ "java/lang/invoke/VarHandle" ∧ (parseMethodDescriptor yX10_isLeader.desc).map (fun d => d.parameters.length) = some 1 := by decide +kernel
set_option maxHeartbeats 4000000 in
set_option maxRecDepth 100000 in
theorem c_X10_isLeader (l : Launch) (D : va_G) (N : Nat) (cI cB cZ cM cJ cK : ClassId) (a_t a_t_text a_t_corners a_t_streets a_t_ends a_t_time a_t_leaders a_t_home a_t_feet a_t_far a_t_now a_t_isKept a_t_tried a_t_row a_t_who a_t_then a_t_best a_t_seenAs a_t_seenAt a_t_plan : Nat) (t_trace : Int64) (t_typed t_at t_start t_sort t_value t_fault t_rowLong t_homes t_bestValue t_seen t_planMany : Int32) (t_leaders : Nat → Int32) (x1 : Int32) : gM l yX10_isLeader wsX10_isLeader rmX10_isLeader D (gT cI cB cZ cM cJ cK) (wX10_isLeader cI cB cZ cM cJ cK  a_t a_t_text a_t_corners a_t_streets a_t_ends a_t_time a_t_leaders a_t_home a_t_feet a_t_far a_t_now a_t_isKept a_t_tried a_t_row a_t_who a_t_then a_t_best a_t_seenAs a_t_seenAt a_t_plan t_trace t_typed t_at t_start t_sort t_value t_fault t_rowLong t_homes t_bestValue t_seen t_planMany t_leaders) [.ref a_t, .int x1] (fX10_isLeader N t_leaders x1) (fun _u : Int32 => some (.int _u)) (fun _u : Int32 => (wX10_isLeader cI cB cZ cM cJ cK  a_t a_t_text a_t_corners a_t_streets a_t_ends a_t_time a_t_leaders a_t_home a_t_feet a_t_far a_t_now a_t_isKept a_t_tried a_t_row a_t_who a_t_then a_t_best a_t_seenAs a_t_seenAt a_t_plan t_trace t_typed t_at t_start t_sort t_value t_fault t_rowLong t_homes t_bestValue t_seen t_planMany t_leaders)) := by
  refine g_start (cc := cX10_isLeader) (maxL := 2) (ret := (some .boolean)) (by decide) rfl (Nat.le_of_ble_eq_true rfl) ?_
  intro F hf hF p e s m below meth c A ls S hK hA Wd hr hlk hnm hl
  refine lv_iload_n S.1 S.2.1 dX10_isLeader_0 rfl (lv_at hl 1 rfl) ?_
  refine lv_iconst (v := 0) S.1 S.2.1 dX10_isLeader_1 (by decide) ?_
  refine lv_aload_n S.1 S.2.1 dX10_isLeader_2 rfl (lv_at hl 0 rfl) ?_
  refine g_get (a := a_t) S hK Wd iX10_isLeader_X10 0 rfl rfl 7 rfl rfl kX10_isLeader_1 rfl dX10_isLeader_3 ?_
  refine lv_iconst (v := 0) S.1 S.2.1 dX10_isLeader_6 (by decide) ?_
  refine g_iald (a := a_t_leaders) S hK Wd 1 0 rfl rfl (show ¬ (((0 : Int32) < 0) ∨ 2 ≤ Int32.toNatClampNeg (0 : Int32)) from by decide) dX10_isLeader_7 ?_
  refine lv_iconst (v := 1) S.1 S.2.1 dX10_isLeader_8 (by decide) ?_
  refine lv_isub S.1 S.2.1 dX10_isLeader_9 ?_
  obtain ⟨u1, hu1, hf⟩ := g_bind hF hf
  refine g_callS (ws' := (wX10_isLeader cI cB cZ cM cJ cK  a_t a_t_text a_t_corners a_t_streets a_t_ends a_t_time a_t_leaders a_t_home a_t_feet a_t_far a_t_now a_t_isKept a_t_tried a_t_row a_t_who a_t_then a_t_best a_t_seenAs a_t_seenAt a_t_plan t_trace t_typed t_at t_start t_sort t_value t_fault t_rowLong t_homes t_bestValue t_seen t_planMany t_leaders)) (As := [.int x1, .int (0 : Int32), .int ((t_leaders (0 : Int32).toNatClampNeg) - (1 : Int32))]) (rest := []) (st1 := [.int u1]) S hK hA Wd (c_X10_in l D N cI cB cZ cM cJ cK x1 (0 : Int32) ((t_leaders (0 : Int32).toNatClampNeg) - (1 : Int32))) (va_cwS 3 S.2.2.2.2 gX10_isLeader_X10_in rfl rfl rfl n_X10_in ⟨Nat.le_of_ble_eq_true rfl, Nat.le_of_ble_eq_true rfl⟩) hu1 [] rfl rfl rfl rfl rfl rfl hl.1 rfl (Nat.le_of_ble_eq_true rfl) dX10_isLeader_10 ⟨Nat.zero_le _, Nat.zero_le _⟩ (fun H locs Wd => ?_)
  obtain ⟨h2, hf⟩ := g_gc hF hf
  exact g_zret S Wd hr hlk (congrArg Value.int h2) dX10_isLeader_13 u1 hf rfl rfl
def wX10_isCorner (cI cB cZ cM cJ cK : ClassId) (a_t a_t_text a_t_corners a_t_streets a_t_ends a_t_time a_t_leaders a_t_home a_t_feet a_t_far a_t_now a_t_isKept a_t_tried a_t_row a_t_who a_t_then a_t_best a_t_seenAs a_t_seenAt a_t_plan : Nat) (t_trace : Int64) (t_typed t_at t_start t_sort t_value t_fault t_rowLong t_homes t_bestValue t_seen t_planMany : Int32) (t_corners : Nat → Int32) : List va_W := [[(a_t, .inr (10, [.long t_trace, .ref a_t_text, .int t_typed, .ref a_t_corners, .ref a_t_streets, .ref a_t_ends, .ref a_t_time, .ref a_t_leaders, .ref a_t_home, .ref a_t_feet, .int t_at, .int t_start, .int t_sort, .int t_value, .int t_fault, .ref a_t_far, .ref a_t_now, .ref a_t_isKept, .ref a_t_tried, .ref a_t_row, .int t_rowLong, .ref a_t_who, .ref a_t_then, .int t_homes, .ref a_t_best, .int t_bestValue, .ref a_t_seenAs, .ref a_t_seenAt, .int t_seen, .ref a_t_plan, .int t_planMany]))], [(a_t_corners, .inl (cI, 2, .inl t_corners))]]
def rmX10_isCorner : Room := { frames := 1, cells := 0, slots := 0, locals := 22 }
theorem kX10_isCorner_1 : Cond.fieldLink RX10 13 "FeastMarchModel" "corners" "[I" ∈ wsX10_isCorner := List.mem_of_getElem? (i := 1) rfl
theorem iX10_isCorner_X10 : ∀ w ∈ wsX100, w ∈ wsX10_isCorner := fun _ h => List.mem_cons_of_mem _ (List.mem_append_right _ h)
theorem n_X10_isCorner : yX10_isCorner.cls = RX10 ∧ yX10_isCorner.cls ≠ "java/lang/invoke/MethodHandle" ∧ yX10_isCorner.cls ≠ "java/lang/invoke/VarHandle" ∧ (parseMethodDescriptor yX10_isCorner.desc).map (fun d => d.parameters.length) = some 1 := by decide +kernel
set_option maxHeartbeats 4000000 in
set_option maxRecDepth 100000 in
theorem c_X10_isCorner (l : Launch) (D : va_G) (N : Nat) (cI cB cZ cM cJ cK : ClassId) (a_t a_t_text a_t_corners a_t_streets a_t_ends a_t_time a_t_leaders a_t_home a_t_feet a_t_far a_t_now a_t_isKept a_t_tried a_t_row a_t_who a_t_then a_t_best a_t_seenAs a_t_seenAt a_t_plan : Nat) (t_trace : Int64) (t_typed t_at t_start t_sort t_value t_fault t_rowLong t_homes t_bestValue t_seen t_planMany : Int32) (t_corners : Nat → Int32) (x1 : Int32) : gM l yX10_isCorner wsX10_isCorner rmX10_isCorner D (gT cI cB cZ cM cJ cK) (wX10_isCorner cI cB cZ cM cJ cK  a_t a_t_text a_t_corners a_t_streets a_t_ends a_t_time a_t_leaders a_t_home a_t_feet a_t_far a_t_now a_t_isKept a_t_tried a_t_row a_t_who a_t_then a_t_best a_t_seenAs a_t_seenAt a_t_plan t_trace t_typed t_at t_start t_sort t_value t_fault t_rowLong t_homes t_bestValue t_seen t_planMany t_corners) [.ref a_t, .int x1] (fX10_isCorner N t_corners x1) (fun _u : Int32 => some (.int _u)) (fun _u : Int32 => (wX10_isCorner cI cB cZ cM cJ cK  a_t a_t_text a_t_corners a_t_streets a_t_ends a_t_time a_t_leaders a_t_home a_t_feet a_t_far a_t_now a_t_isKept a_t_tried a_t_row a_t_who a_t_then a_t_best a_t_seenAs a_t_seenAt a_t_plan t_trace t_typed t_at t_start t_sort t_value t_fault t_rowLong t_homes t_bestValue t_seen t_planMany t_corners)) := by
  refine g_start (cc := cX10_isCorner) (maxL := 2) (ret := (some .boolean)) (by decide) rfl (Nat.le_of_ble_eq_true rfl) ?_
  intro F hf hF p e s m below meth c A ls S hK hA Wd hr hlk hnm hl
  refine lv_iload_n S.1 S.2.1 dX10_isCorner_0 rfl (lv_at hl 1 rfl) ?_
  refine lv_iconst (v := 0) S.1 S.2.1 dX10_isCorner_1 (by decide) ?_
  refine lv_aload_n S.1 S.2.1 dX10_isCorner_2 rfl (lv_at hl 0 rfl) ?_
  refine g_get (a := a_t) S hK Wd iX10_isCorner_X10 0 rfl rfl 3 rfl rfl kX10_isCorner_1 rfl dX10_isCorner_3 ?_
  refine lv_iconst (v := 0) S.1 S.2.1 dX10_isCorner_6 (by decide) ?_
  refine g_iald (a := a_t_corners) S hK Wd 1 0 rfl rfl (show ¬ (((0 : Int32) < 0) ∨ 2 ≤ Int32.toNatClampNeg (0 : Int32)) from by decide) dX10_isCorner_7 ?_
  refine lv_iconst (v := 1) S.1 S.2.1 dX10_isCorner_8 (by decide) ?_
  refine lv_isub S.1 S.2.1 dX10_isCorner_9 ?_
  obtain ⟨u1, hu1, hf⟩ := g_bind hF hf
  refine g_callS (ws' := (wX10_isCorner cI cB cZ cM cJ cK  a_t a_t_text a_t_corners a_t_streets a_t_ends a_t_time a_t_leaders a_t_home a_t_feet a_t_far a_t_now a_t_isKept a_t_tried a_t_row a_t_who a_t_then a_t_best a_t_seenAs a_t_seenAt a_t_plan t_trace t_typed t_at t_start t_sort t_value t_fault t_rowLong t_homes t_bestValue t_seen t_planMany t_corners)) (As := [.int x1, .int (0 : Int32), .int ((t_corners (0 : Int32).toNatClampNeg) - (1 : Int32))]) (rest := []) (st1 := [.int u1]) S hK hA Wd (c_X10_in l D N cI cB cZ cM cJ cK x1 (0 : Int32) ((t_corners (0 : Int32).toNatClampNeg) - (1 : Int32))) (va_cwS 3 S.2.2.2.2 gX10_isCorner_X10_in rfl rfl rfl n_X10_in ⟨Nat.le_of_ble_eq_true rfl, Nat.le_of_ble_eq_true rfl⟩) hu1 [] rfl rfl rfl rfl rfl rfl hl.1 rfl (Nat.le_of_ble_eq_true rfl) dX10_isCorner_10 ⟨Nat.zero_le _, Nat.zero_le _⟩ (fun H locs Wd => ?_)
  obtain ⟨h2, hf⟩ := g_gc hF hf
  exact g_zret S Wd hr hlk (congrArg Value.int h2) dX10_isCorner_13 u1 hf rfl rfl
def wX10_street (cI cB cZ cM cJ cK : ClassId) (a_t a_t_text a_t_corners a_t_streets a_t_ends a_t_time a_t_leaders a_t_home a_t_feet a_t_far a_t_now a_t_isKept a_t_tried a_t_row a_t_who a_t_then a_t_best a_t_seenAs a_t_seenAt a_t_plan : Nat) (t_trace : Int64) (t_typed t_at t_start t_sort t_value t_fault t_rowLong t_homes t_bestValue t_seen t_planMany : Int32) (t_streets t_ends t_time t_now : Nat → Int32) : List va_W := [[(a_t, .inr (10, [.long t_trace, .ref a_t_text, .int t_typed, .ref a_t_corners, .ref a_t_streets, .ref a_t_ends, .ref a_t_time, .ref a_t_leaders, .ref a_t_home, .ref a_t_feet, .int t_at, .int t_start, .int t_sort, .int t_value, .int t_fault, .ref a_t_far, .ref a_t_now, .ref a_t_isKept, .ref a_t_tried, .ref a_t_row, .int t_rowLong, .ref a_t_who, .ref a_t_then, .int t_homes, .ref a_t_best, .int t_bestValue, .ref a_t_seenAs, .ref a_t_seenAt, .int t_seen, .ref a_t_plan, .int t_planMany]))], [(a_t_streets, .inl (cI, 2, .inl t_streets))], [(a_t_ends, .inl (cI, 48, .inl t_ends))], [(a_t_time, .inl (cI, 24, .inl t_time))], [(a_t_now, .inl (cI, 564, .inl t_now))]]
def rmX10_street : Room := { frames := 2, cells := 0, slots := 0, locals := 43 }
theorem kX10_street_1 : Cond.fieldLink RX10 20 "FeastMarchModel" "ends" "[I" ∈ wsX10_street := List.mem_of_getElem? (i := 1) rfl
theorem kX10_street_2 : Cond.fieldLink RX10 23 "FeastMarchModel" "time" "[I" ∈ wsX10_street := List.mem_of_getElem? (i := 2) rfl
theorem kX10_street_3 : Cond.fieldLink RX10 38 "FeastMarchModel" "now" "[I" ∈ wsX10_street := List.mem_of_getElem? (i := 3) rfl
theorem iX10_street_X10 : ∀ w ∈ wsX100, w ∈ wsX10_street := fun _ h => List.mem_cons_of_mem _ (List.mem_append_right _ h)
theorem n_X10_street : yX10_street.cls = RX10 ∧ yX10_street.cls ≠ "java/lang/invoke/MethodHandle" ∧ yX10_street.cls ≠ "java/lang/invoke/VarHandle" ∧ (parseMethodDescriptor yX10_street.desc).map (fun d => d.parameters.length) = some 2 := by decide +kernel
set_option maxHeartbeats 4000000 in
set_option maxRecDepth 100000 in
theorem c_X10_street (l : Launch) (D : va_G) (N : Nat) (cI cB cZ cM cJ cK : ClassId) (a_t a_t_text a_t_corners a_t_streets a_t_ends a_t_time a_t_leaders a_t_home a_t_feet a_t_far a_t_now a_t_isKept a_t_tried a_t_row a_t_who a_t_then a_t_best a_t_seenAs a_t_seenAt a_t_plan : Nat) (t_trace : Int64) (t_typed t_at t_start t_sort t_value t_fault t_rowLong t_homes t_bestValue t_seen t_planMany : Int32) (t_streets t_ends t_time t_now : Nat → Int32) (x1 x2 : Int32) : gM l yX10_street wsX10_street rmX10_street D (gT cI cB cZ cM cJ cK) (wX10_street cI cB cZ cM cJ cK  a_t a_t_text a_t_corners a_t_streets a_t_ends a_t_time a_t_leaders a_t_home a_t_feet a_t_far a_t_now a_t_isKept a_t_tried a_t_row a_t_who a_t_then a_t_best a_t_seenAs a_t_seenAt a_t_plan t_trace t_typed t_at t_start t_sort t_value t_fault t_rowLong t_homes t_bestValue t_seen t_planMany t_streets t_ends t_time t_now) [.ref a_t, .int x1, .int x2] (fX10_street N t_streets t_ends t_time t_now x1 x2) (fun _u : Int32 => some (.int _u)) (fun _u : Int32 => (wX10_street cI cB cZ cM cJ cK  a_t a_t_text a_t_corners a_t_streets a_t_ends a_t_time a_t_leaders a_t_home a_t_feet a_t_far a_t_now a_t_isKept a_t_tried a_t_row a_t_who a_t_then a_t_best a_t_seenAs a_t_seenAt a_t_plan t_trace t_typed t_at t_start t_sort t_value t_fault t_rowLong t_homes t_bestValue t_seen t_planMany t_streets t_ends t_time t_now)) := by
  refine g_start (cc := cX10_street) (maxL := 3) (ret := (some .int)) (by decide) rfl (Nat.le_of_ble_eq_true rfl) ?_
  intro F hf hF p e s m below meth c A ls S hK hA Wd hr hlk hnm hl
  have b44 : ∀  (H1 : Heap) (locs1 : List Loc) (ls1 : Array Slot), gw D A s.heap (wX10_street cI cB cZ cM cJ cK  a_t a_t_text a_t_corners a_t_streets a_t_ends a_t_time a_t_leaders a_t_home a_t_feet a_t_far a_t_now a_t_isKept a_t_tried a_t_row a_t_who a_t_then a_t_best a_t_seenAs a_t_seenAt a_t_plan t_trace t_typed t_at t_start t_sort t_value t_fault t_rowLong t_homes t_bestValue t_seen t_planMany t_streets t_ends t_time t_now) H1 locs1 → lv_has ls1 3 [(0, .ref a_t), (1, .int x1), (2, .int x2)] → F = fX10_street_b44 N t_streets t_ends t_time t_now x1 x2   → W p l e rmX10_street s m [.ref a_t, .int x1, .int x2].toArray below meth c H1 locs1 0 0 (MQ below (gQ F (fun _u : Int32 => some (.int _u)) (fun _u : Int32 => (wX10_street cI cB cZ cM cJ cK  a_t a_t_text a_t_corners a_t_streets a_t_ends a_t_time a_t_leaders a_t_home a_t_feet a_t_far a_t_now a_t_isKept a_t_tried a_t_row a_t_who a_t_then a_t_best a_t_seenAs a_t_seenAt a_t_plan t_trace t_typed t_at t_start t_sort t_value t_fault t_rowLong t_homes t_bestValue t_seen t_planMany t_streets t_ends t_time t_now)) D A) [.ref a_t, .int x1, .int x2].toArray s 0 0 A) (F0 m 44 ls1 []) := by
    intro   H locs ls Wd hl hf
    refine lv_aload_n S.1 S.2.1 dX10_street_44 rfl (lv_at hl 0 rfl) ?_
    refine g_get (a := a_t) S hK Wd iX10_street_X10 0 rfl rfl 5 rfl rfl kX10_street_1 rfl dX10_street_45 ?_
    refine lv_iconst (v := 2) S.1 S.2.1 dX10_street_48 (by decide) ?_
    refine lv_iload_n S.1 S.2.1 dX10_street_49 rfl (lv_at hl 1 rfl) ?_
    refine lv_imul S.1 S.2.1 dX10_street_50 ?_
    refine lv_iload_n S.1 S.2.1 dX10_street_51 rfl (lv_at hl 2 rfl) ?_
    refine lv_iadd S.1 S.2.1 dX10_street_52 ?_
    obtain ⟨h10, hf⟩ := g_gi hF hf
    refine g_iald (a := a_t_ends) S hK Wd 2 0 rfl rfl h10 dX10_street_53 ?_
    exact g_iret S Wd hr hlk dX10_street_54 (t_ends (((2 : Int32) * x1) + x2).toNatClampNeg) hf rfl rfl
  refine lv_aload_n S.1 S.2.1 dX10_street_0 rfl (lv_at hl 0 rfl) ?_
  refine lv_iload_n S.1 S.2.1 dX10_street_1 rfl (lv_at hl 1 rfl) ?_
  obtain ⟨u1, hu1, hf⟩ := g_bind hF hf
  refine g_callV (ws' := (wX10_street cI cB cZ cM cJ cK  a_t a_t_text a_t_corners a_t_streets a_t_ends a_t_time a_t_leaders a_t_home a_t_feet a_t_far a_t_now a_t_isKept a_t_tried a_t_row a_t_who a_t_then a_t_best a_t_seenAs a_t_seenAt a_t_plan t_trace t_typed t_at t_start t_sort t_value t_fault t_rowLong t_homes t_bestValue t_seen t_planMany t_streets t_ends t_time t_now)) (As := [.int x1]) (rest := []) (st1 := [.int u1]) S hK hA Wd (c_X10_isStreet l D N cI cB cZ cM cJ cK a_t a_t_text a_t_corners a_t_streets a_t_ends a_t_time a_t_leaders a_t_home a_t_feet a_t_far a_t_now a_t_isKept a_t_tried a_t_row a_t_who a_t_then a_t_best a_t_seenAs a_t_seenAt a_t_plan t_trace t_typed t_at t_start t_sort t_value t_fault t_rowLong t_homes t_bestValue t_seen t_planMany t_streets x1) (cwV 1 S.2.2.2.2 gX10_street_X10_isStreet rfl rfl rfl n_X10_isStreet ⟨Nat.le_of_ble_eq_true rfl, Nat.le_of_ble_eq_true rfl⟩) hu1 [0, 1] rfl rfl 0 10 rfl rfl rfl rfl rfl rfl rfl hl.1 rfl (Nat.le_of_ble_eq_true rfl) dX10_street_2 ⟨Nat.zero_le _, Nat.zero_le _⟩ (fun H locs Wd => ?_)
  refine lv_if_ne (tgt := 10) S.1 S.2.1 dX10_street_5 rfl (fun c2 => ?_) (fun c2 => ?_)
  · have hf := g_ifn hf c2
    refine lv_iload_n S.1 S.2.1 dX10_street_10 rfl (lv_at hl 2 rfl) ?_
    by_cases c3 : x2 = (0 : Int32)
    · have hf := g_if hf c3
      refine g_tabIn (tgt := 44) (off := 33) S c3 dX10_street_11 (by decide) (by decide) (by decide) rfl ?_
      exact b44   _ _ _ Wd hl hf
    have hf := g_ifn hf c3
    by_cases c4 : x2 = (1 : Int32)
    · have hf := g_if hf c4
      refine g_tabIn (tgt := 44) (off := 33) S c4 dX10_street_11 (by decide) (by decide) (by decide) rfl ?_
      exact b44   _ _ _ Wd hl hf
    have hf := g_ifn hf c4
    by_cases c5 : x2 = (2 : Int32)
    · have hf := g_if hf c5
      refine g_tabIn (tgt := 55) (off := 44) S c5 dX10_street_11 (by decide) (by decide) (by decide) rfl ?_
      refine lv_aload_n S.1 S.2.1 dX10_street_55 rfl (lv_at hl 0 rfl) ?_
      refine g_get (a := a_t) S hK Wd iX10_street_X10 0 rfl rfl 6 rfl rfl kX10_street_2 rfl dX10_street_56 ?_
      refine lv_iload_n S.1 S.2.1 dX10_street_59 rfl (lv_at hl 1 rfl) ?_
      obtain ⟨h6, hf⟩ := g_gi hF hf
      refine g_iald (a := a_t_time) S hK Wd 3 0 rfl rfl h6 dX10_street_60 ?_
      exact g_iret S Wd hr hlk dX10_street_61 (t_time x1.toNatClampNeg) hf rfl rfl
    have hf := g_ifn hf c5
    by_cases c7 : x2 = (3 : Int32)
    · have hf := g_if hf c7
      refine g_tabIn (tgt := 62) (off := 51) S c7 dX10_street_11 (by decide) (by decide) (by decide) rfl ?_
      refine lv_aload_n S.1 S.2.1 dX10_street_62 rfl (lv_at hl 0 rfl) ?_
      refine g_get (a := a_t) S hK Wd iX10_street_X10 0 rfl rfl 16 rfl rfl kX10_street_3 rfl dX10_street_63 ?_
      refine lv_iconst (v := 5) S.1 S.2.1 dX10_street_66 (by decide) ?_
      refine lv_iload_n S.1 S.2.1 dX10_street_67 rfl (lv_at hl 1 rfl) ?_
      refine lv_iadd S.1 S.2.1 dX10_street_68 ?_
      obtain ⟨h8, hf⟩ := g_gi hF hf
      refine g_iald (a := a_t_now) S hK Wd 4 0 rfl rfl h8 dX10_street_69 ?_
      exact g_iret S Wd hr hlk dX10_street_70 (t_now ((5 : Int32) + x1).toNatClampNeg) hf rfl rfl
    have hf := g_ifn hf c7
    by_cases c9 : x2 = (4 : Int32)
    · have hf := g_if hf c9
      refine g_tabIn (tgt := 71) (off := 60) S c9 dX10_street_11 (by decide) (by decide) (by decide) rfl ?_
      refine lv_aload_n S.1 S.2.1 dX10_street_71 rfl (lv_at hl 0 rfl) ?_
      refine g_get (a := a_t) S hK Wd iX10_street_X10 0 rfl rfl 16 rfl rfl kX10_street_3 rfl dX10_street_72 ?_
      refine lv_iconst (v := 4) S.1 S.2.1 dX10_street_75 (by decide) ?_
      refine g_iald (a := a_t_now) S hK Wd 4 0 rfl rfl (show ¬ (((4 : Int32) < 0) ∨ 564 ≤ Int32.toNatClampNeg (4 : Int32)) from by decide) dX10_street_76 ?_
      refine lv_iload_n S.1 S.2.1 dX10_street_77 rfl (lv_at hl 1 rfl) ?_
      refine lv_ishr S.1 S.2.1 dX10_street_78 ?_
      refine lv_iconst (v := 1) S.1 S.2.1 dX10_street_79 (by decide) ?_
      refine lv_iand S.1 S.2.1 dX10_street_80 ?_
      exact g_iret S Wd hr hlk dX10_street_81 (((t_now (4 : Int32).toNatClampNeg) >>> (x1 &&& 31)) &&& (1 : Int32)) hf rfl rfl
    have hf := g_ifn hf c9
    refine lv_tableOut (tgt := 82) S.1 S.2.1 dX10_street_11 ?_ rfl ?_
    · have q0 : (x2).toInt < 0 ∨ 4 < (x2).toInt := by
        have z0 : (x2).toInt ≠ 0 := fun e => g_ne c3 (e.trans (by decide))
        have z1 : (x2).toInt ≠ 1 := fun e => g_ne c4 (e.trans (by decide))
        have z2 : (x2).toInt ≠ 2 := fun e => g_ne c5 (e.trans (by decide))
        have z3 : (x2).toInt ≠ 3 := fun e => g_ne c7 (e.trans (by decide))
        have z4 : (x2).toInt ≠ 4 := fun e => g_ne c9 (e.trans (by decide))
        omega
      exact q0
    refine lv_iconst (v := (-1)) S.1 S.2.1 dX10_street_82 (by decide) ?_
    exact g_iret S Wd hr hlk dX10_street_83 (-1 : Int32) hf rfl rfl
  · have hf := g_if hf c2
    refine lv_iconst (v := (-1)) S.1 S.2.1 dX10_street_8 (by decide) ?_
    exact g_iret S Wd hr hlk dX10_street_9 (-1 : Int32) hf rfl rfl
def wX10_leader (cI cB cZ cM cJ cK : ClassId) (a_t a_t_text a_t_corners a_t_streets a_t_ends a_t_time a_t_leaders a_t_home a_t_feet a_t_far a_t_now a_t_isKept a_t_tried a_t_row a_t_who a_t_then a_t_best a_t_seenAs a_t_seenAt a_t_plan : Nat) (t_trace : Int64) (t_typed t_at t_start t_sort t_value t_fault t_rowLong t_homes t_bestValue t_seen t_planMany : Int32) (t_leaders t_home t_feet t_now : Nat → Int32) : List va_W := [[(a_t, .inr (10, [.long t_trace, .ref a_t_text, .int t_typed, .ref a_t_corners, .ref a_t_streets, .ref a_t_ends, .ref a_t_time, .ref a_t_leaders, .ref a_t_home, .ref a_t_feet, .int t_at, .int t_start, .int t_sort, .int t_value, .int t_fault, .ref a_t_far, .ref a_t_now, .ref a_t_isKept, .ref a_t_tried, .ref a_t_row, .int t_rowLong, .ref a_t_who, .ref a_t_then, .int t_homes, .ref a_t_best, .int t_bestValue, .ref a_t_seenAs, .ref a_t_seenAt, .int t_seen, .ref a_t_plan, .int t_planMany]))], [(a_t_leaders, .inl (cI, 2, .inl t_leaders))], [(a_t_home, .inl (cI, 12, .inl t_home))], [(a_t_feet, .inl (cI, 12, .inl t_feet))], [(a_t_now, .inl (cI, 564, .inl t_now))]]
def rmX10_leader : Room := { frames := 2, cells := 0, slots := 0, locals := 43 }
theorem kX10_leader_1 : Cond.fieldLink RX10 29 "FeastMarchModel" "home" "[I" ∈ wsX10_leader := List.mem_of_getElem? (i := 1) rfl
theorem kX10_leader_2 : Cond.fieldLink RX10 32 "FeastMarchModel" "feet" "[I" ∈ wsX10_leader := List.mem_of_getElem? (i := 2) rfl
theorem kX10_leader_3 : Cond.fieldLink RX10 38 "FeastMarchModel" "now" "[I" ∈ wsX10_leader := List.mem_of_getElem? (i := 3) rfl
theorem iX10_leader_X10 : ∀ w ∈ wsX100, w ∈ wsX10_leader := fun _ h => List.mem_cons_of_mem _ (List.mem_append_right _ h)
theorem n_X10_leader : yX10_leader.cls = RX10 ∧ yX10_leader.cls ≠ "java/lang/invoke/MethodHandle" ∧ yX10_leader.cls ≠ "java/lang/invoke/VarHandle" ∧ (parseMethodDescriptor yX10_leader.desc).map (fun d => d.parameters.length) = some 2 := by decide +kernel
set_option maxHeartbeats 4000000 in
set_option maxRecDepth 100000 in
theorem c_X10_leader (l : Launch) (D : va_G) (N : Nat) (cI cB cZ cM cJ cK : ClassId) (a_t a_t_text a_t_corners a_t_streets a_t_ends a_t_time a_t_leaders a_t_home a_t_feet a_t_far a_t_now a_t_isKept a_t_tried a_t_row a_t_who a_t_then a_t_best a_t_seenAs a_t_seenAt a_t_plan : Nat) (t_trace : Int64) (t_typed t_at t_start t_sort t_value t_fault t_rowLong t_homes t_bestValue t_seen t_planMany : Int32) (t_leaders t_home t_feet t_now : Nat → Int32) (x1 x2 : Int32) : gM l yX10_leader wsX10_leader rmX10_leader D (gT cI cB cZ cM cJ cK) (wX10_leader cI cB cZ cM cJ cK  a_t a_t_text a_t_corners a_t_streets a_t_ends a_t_time a_t_leaders a_t_home a_t_feet a_t_far a_t_now a_t_isKept a_t_tried a_t_row a_t_who a_t_then a_t_best a_t_seenAs a_t_seenAt a_t_plan t_trace t_typed t_at t_start t_sort t_value t_fault t_rowLong t_homes t_bestValue t_seen t_planMany t_leaders t_home t_feet t_now) [.ref a_t, .int x1, .int x2] (fX10_leader N t_leaders t_home t_feet t_now x1 x2) (fun _u : Int32 => some (.int _u)) (fun _u : Int32 => (wX10_leader cI cB cZ cM cJ cK  a_t a_t_text a_t_corners a_t_streets a_t_ends a_t_time a_t_leaders a_t_home a_t_feet a_t_far a_t_now a_t_isKept a_t_tried a_t_row a_t_who a_t_then a_t_best a_t_seenAs a_t_seenAt a_t_plan t_trace t_typed t_at t_start t_sort t_value t_fault t_rowLong t_homes t_bestValue t_seen t_planMany t_leaders t_home t_feet t_now)) := by
  refine g_start (cc := cX10_leader) (maxL := 3) (ret := (some .int)) (by decide) rfl (Nat.le_of_ble_eq_true rfl) ?_
  intro F hf hF p e s m below meth c A ls S hK hA Wd hr hlk hnm hl
  refine lv_aload_n S.1 S.2.1 dX10_leader_0 rfl (lv_at hl 0 rfl) ?_
  refine lv_iload_n S.1 S.2.1 dX10_leader_1 rfl (lv_at hl 1 rfl) ?_
  obtain ⟨u1, hu1, hf⟩ := g_bind hF hf
  refine g_callV (ws' := (wX10_leader cI cB cZ cM cJ cK  a_t a_t_text a_t_corners a_t_streets a_t_ends a_t_time a_t_leaders a_t_home a_t_feet a_t_far a_t_now a_t_isKept a_t_tried a_t_row a_t_who a_t_then a_t_best a_t_seenAs a_t_seenAt a_t_plan t_trace t_typed t_at t_start t_sort t_value t_fault t_rowLong t_homes t_bestValue t_seen t_planMany t_leaders t_home t_feet t_now)) (As := [.int x1]) (rest := []) (st1 := [.int u1]) S hK hA Wd (c_X10_isLeader l D N cI cB cZ cM cJ cK a_t a_t_text a_t_corners a_t_streets a_t_ends a_t_time a_t_leaders a_t_home a_t_feet a_t_far a_t_now a_t_isKept a_t_tried a_t_row a_t_who a_t_then a_t_best a_t_seenAs a_t_seenAt a_t_plan t_trace t_typed t_at t_start t_sort t_value t_fault t_rowLong t_homes t_bestValue t_seen t_planMany t_leaders x1) (cwV 1 S.2.2.2.2 gX10_leader_X10_isLeader rfl rfl rfl n_X10_isLeader ⟨Nat.le_of_ble_eq_true rfl, Nat.le_of_ble_eq_true rfl⟩) hu1 [0, 1] rfl rfl 0 10 rfl rfl rfl rfl rfl rfl rfl hl.1 rfl (Nat.le_of_ble_eq_true rfl) dX10_leader_2 ⟨Nat.zero_le _, Nat.zero_le _⟩ (fun H locs Wd => ?_)
  refine lv_if_eq (tgt := 17) S.1 S.2.1 dX10_leader_5 rfl (fun c2 => ?_) (fun c2 => ?_)
  · have hf := g_if hf c2
    refine lv_iconst (v := (-1)) S.1 S.2.1 dX10_leader_17 (by decide) ?_
    exact g_iret S Wd hr hlk dX10_leader_18 (-1 : Int32) hf rfl rfl
  · have hf := g_ifn hf c2
    refine lv_iload_n S.1 S.2.1 dX10_leader_8 rfl (lv_at hl 2 rfl) ?_
    refine lv_iconst (v := 0) S.1 S.2.1 dX10_leader_9 (by decide) ?_
    refine lv_iconst (v := 2) S.1 S.2.1 dX10_leader_10 (by decide) ?_
    obtain ⟨u3, hu3, hf⟩ := g_bind hF hf
    refine g_callS (ws' := (wX10_leader cI cB cZ cM cJ cK  a_t a_t_text a_t_corners a_t_streets a_t_ends a_t_time a_t_leaders a_t_home a_t_feet a_t_far a_t_now a_t_isKept a_t_tried a_t_row a_t_who a_t_then a_t_best a_t_seenAs a_t_seenAt a_t_plan t_trace t_typed t_at t_start t_sort t_value t_fault t_rowLong t_homes t_bestValue t_seen t_planMany t_leaders t_home t_feet t_now)) (As := [.int x2, .int (0 : Int32), .int (2 : Int32)]) (rest := []) (st1 := [.int u3]) S hK hA Wd (c_X10_in l D N cI cB cZ cM cJ cK x2 (0 : Int32) (2 : Int32)) (va_cwS 3 S.2.2.2.2 gX10_leader_X10_in rfl rfl rfl n_X10_in ⟨Nat.le_of_ble_eq_true rfl, Nat.le_of_ble_eq_true rfl⟩) hu3 [] rfl rfl rfl rfl rfl rfl hl.1 rfl (Nat.le_of_ble_eq_true rfl) dX10_leader_11 ⟨Nat.zero_le _, Nat.zero_le _⟩ (fun H locs Wd => ?_)
    refine lv_if_ne (tgt := 19) S.1 S.2.1 dX10_leader_14 rfl (fun c4 => ?_) (fun c4 => ?_)
    · have hf := g_ifn hf c4
      refine lv_iload_n S.1 S.2.1 dX10_leader_19 rfl (lv_at hl 2 rfl) ?_
      refine lv_if_ne (tgt := 32) S.1 S.2.1 dX10_leader_20 rfl (fun c5 => ?_) (fun c5 => ?_)
      · have hf := g_ifn hf c5
        refine lv_iload_n S.1 S.2.1 dX10_leader_32 rfl (lv_at hl 2 rfl) ?_
        refine lv_iconst (v := 1) S.1 S.2.1 dX10_leader_33 (by decide) ?_
        refine lv_icmp_ne (tgt := 46) S.1 S.2.1 dX10_leader_34 rfl (fun c6 => ?_) (fun c6 => ?_)
        · have hf := g_ifn hf c6
          refine lv_aload_n S.1 S.2.1 dX10_leader_46 rfl (lv_at hl 0 rfl) ?_
          refine g_get (a := a_t) S hK Wd iX10_leader_X10 0 rfl rfl 16 rfl rfl kX10_leader_3 rfl dX10_leader_47 ?_
          refine lv_iconst (v := 3) S.1 S.2.1 dX10_leader_50 (by decide) ?_
          refine g_iald (a := a_t_now) S hK Wd 4 0 rfl rfl (show ¬ (((3 : Int32) < 0) ∨ 564 ≤ Int32.toNatClampNeg (3 : Int32)) from by decide) dX10_leader_51 ?_
          refine lv_iload_n S.1 S.2.1 dX10_leader_52 rfl (lv_at hl 1 rfl) ?_
          refine lv_ishr S.1 S.2.1 dX10_leader_53 ?_
          refine lv_iconst (v := 1) S.1 S.2.1 dX10_leader_54 (by decide) ?_
          refine lv_iand S.1 S.2.1 dX10_leader_55 ?_
          exact g_iret S Wd hr hlk dX10_leader_56 (((t_now (3 : Int32).toNatClampNeg) >>> (x1 &&& 31)) &&& (1 : Int32)) hf rfl rfl
        · have hf := g_if hf c6
          refine lv_aload_n S.1 S.2.1 dX10_leader_37 rfl (lv_at hl 0 rfl) ?_
          refine g_get (a := a_t) S hK Wd iX10_leader_X10 0 rfl rfl 9 rfl rfl kX10_leader_2 rfl dX10_leader_38 ?_
          refine lv_iload_n S.1 S.2.1 dX10_leader_41 rfl (lv_at hl 1 rfl) ?_
          obtain ⟨h7, hf⟩ := g_gi hF hf
          refine g_iald (a := a_t_feet) S hK Wd 3 0 rfl rfl h7 dX10_leader_42 ?_
          refine lv_goto (tgt := 56) S.1 S.2.1 dX10_leader_43 rfl ?_
          exact g_iret S Wd hr hlk dX10_leader_56 (t_feet x1.toNatClampNeg) hf rfl rfl
      · have hf := g_if hf c5
        refine lv_aload_n S.1 S.2.1 dX10_leader_23 rfl (lv_at hl 0 rfl) ?_
        refine g_get (a := a_t) S hK Wd iX10_leader_X10 0 rfl rfl 8 rfl rfl kX10_leader_1 rfl dX10_leader_24 ?_
        refine lv_iload_n S.1 S.2.1 dX10_leader_27 rfl (lv_at hl 1 rfl) ?_
        obtain ⟨h8, hf⟩ := g_gi hF hf
        refine g_iald (a := a_t_home) S hK Wd 2 0 rfl rfl h8 dX10_leader_28 ?_
        refine lv_goto (tgt := 56) S.1 S.2.1 dX10_leader_29 rfl ?_
        exact g_iret S Wd hr hlk dX10_leader_56 (t_home x1.toNatClampNeg) hf rfl rfl
    · have hf := g_if hf c4
      refine lv_iconst (v := (-1)) S.1 S.2.1 dX10_leader_17 (by decide) ?_
      exact g_iret S Wd hr hlk dX10_leader_18 (-1 : Int32) hf rfl rfl
def wX10_far (cI cB cZ cM cJ cK : ClassId) (a_t a_t_text a_t_corners a_t_streets a_t_ends a_t_time a_t_leaders a_t_home a_t_feet a_t_far a_t_now a_t_isKept a_t_tried a_t_row a_t_who a_t_then a_t_best a_t_seenAs a_t_seenAt a_t_plan : Nat) (t_trace : Int64) (t_typed t_at t_start t_sort t_value t_fault t_rowLong t_homes t_bestValue t_seen t_planMany : Int32) (t_corners t_far : Nat → Int32) : List va_W := [[(a_t, .inr (10, [.long t_trace, .ref a_t_text, .int t_typed, .ref a_t_corners, .ref a_t_streets, .ref a_t_ends, .ref a_t_time, .ref a_t_leaders, .ref a_t_home, .ref a_t_feet, .int t_at, .int t_start, .int t_sort, .int t_value, .int t_fault, .ref a_t_far, .ref a_t_now, .ref a_t_isKept, .ref a_t_tried, .ref a_t_row, .int t_rowLong, .ref a_t_who, .ref a_t_then, .int t_homes, .ref a_t_best, .int t_bestValue, .ref a_t_seenAs, .ref a_t_seenAt, .int t_seen, .ref a_t_plan, .int t_planMany]))], [(a_t_corners, .inl (cI, 2, .inl t_corners))], [(a_t_far, .inl (cI, 64, .inl t_far))]]
def rmX10_far : Room := { frames := 2, cells := 0, slots := 0, locals := 43 }
theorem kX10_far_1 : Cond.fieldLink RX10 35 "FeastMarchModel" "far" "[I" ∈ wsX10_far := List.mem_of_getElem? (i := 1) rfl
theorem iX10_far_X10 : ∀ w ∈ wsX100, w ∈ wsX10_far := fun _ h => List.mem_cons_of_mem _ (List.mem_append_right _ h)
theorem n_X10_far : yX10_far.cls = RX10 ∧ yX10_far.cls ≠ "java/lang/invoke/MethodHandle" ∧ yX10_far.cls ≠ "java/lang/invoke/VarHandle" ∧ (parseMethodDescriptor yX10_far.desc).map (fun d => d.parameters.length) = some 2 := by decide +kernel
set_option maxHeartbeats 4000000 in
set_option maxRecDepth 100000 in
theorem c_X10_far (l : Launch) (D : va_G) (N : Nat) (cI cB cZ cM cJ cK : ClassId) (a_t a_t_text a_t_corners a_t_streets a_t_ends a_t_time a_t_leaders a_t_home a_t_feet a_t_far a_t_now a_t_isKept a_t_tried a_t_row a_t_who a_t_then a_t_best a_t_seenAs a_t_seenAt a_t_plan : Nat) (t_trace : Int64) (t_typed t_at t_start t_sort t_value t_fault t_rowLong t_homes t_bestValue t_seen t_planMany : Int32) (t_corners t_far : Nat → Int32) (x1 x2 : Int32) : gM l yX10_far wsX10_far rmX10_far D (gT cI cB cZ cM cJ cK) (wX10_far cI cB cZ cM cJ cK  a_t a_t_text a_t_corners a_t_streets a_t_ends a_t_time a_t_leaders a_t_home a_t_feet a_t_far a_t_now a_t_isKept a_t_tried a_t_row a_t_who a_t_then a_t_best a_t_seenAs a_t_seenAt a_t_plan t_trace t_typed t_at t_start t_sort t_value t_fault t_rowLong t_homes t_bestValue t_seen t_planMany t_corners t_far) [.ref a_t, .int x1, .int x2] (fX10_far N t_corners t_far x1 x2) (fun _u : Int32 => some (.int _u)) (fun _u : Int32 => (wX10_far cI cB cZ cM cJ cK  a_t a_t_text a_t_corners a_t_streets a_t_ends a_t_time a_t_leaders a_t_home a_t_feet a_t_far a_t_now a_t_isKept a_t_tried a_t_row a_t_who a_t_then a_t_best a_t_seenAs a_t_seenAt a_t_plan t_trace t_typed t_at t_start t_sort t_value t_fault t_rowLong t_homes t_bestValue t_seen t_planMany t_corners t_far)) := by
  refine g_start (cc := cX10_far) (maxL := 3) (ret := (some .int)) (by decide) rfl (Nat.le_of_ble_eq_true rfl) ?_
  intro F hf hF p e s m below meth c A ls S hK hA Wd hr hlk hnm hl
  refine lv_aload_n S.1 S.2.1 dX10_far_0 rfl (lv_at hl 0 rfl) ?_
  refine lv_iload_n S.1 S.2.1 dX10_far_1 rfl (lv_at hl 1 rfl) ?_
  obtain ⟨u1, hu1, hf⟩ := g_bind hF hf
  refine g_callV (ws' := (wX10_far cI cB cZ cM cJ cK  a_t a_t_text a_t_corners a_t_streets a_t_ends a_t_time a_t_leaders a_t_home a_t_feet a_t_far a_t_now a_t_isKept a_t_tried a_t_row a_t_who a_t_then a_t_best a_t_seenAs a_t_seenAt a_t_plan t_trace t_typed t_at t_start t_sort t_value t_fault t_rowLong t_homes t_bestValue t_seen t_planMany t_corners t_far)) (As := [.int x1]) (rest := []) (st1 := [.int u1]) S hK hA Wd (c_X10_isCorner l D N cI cB cZ cM cJ cK a_t a_t_text a_t_corners a_t_streets a_t_ends a_t_time a_t_leaders a_t_home a_t_feet a_t_far a_t_now a_t_isKept a_t_tried a_t_row a_t_who a_t_then a_t_best a_t_seenAs a_t_seenAt a_t_plan t_trace t_typed t_at t_start t_sort t_value t_fault t_rowLong t_homes t_bestValue t_seen t_planMany t_corners x1) (cwV 1 S.2.2.2.2 gX10_far_X10_isCorner rfl rfl rfl n_X10_isCorner ⟨Nat.le_of_ble_eq_true rfl, Nat.le_of_ble_eq_true rfl⟩) hu1 [0, 1] rfl rfl 0 10 rfl rfl rfl rfl rfl rfl rfl hl.1 rfl (Nat.le_of_ble_eq_true rfl) dX10_far_2 ⟨Nat.zero_le _, Nat.zero_le _⟩ (fun H locs Wd => ?_)
  refine lv_if_eq (tgt := 30) S.1 S.2.1 dX10_far_5 rfl (fun c2 => ?_) (fun c2 => ?_)
  · have hf := g_if hf c2
    refine lv_iconst (v := (-1)) S.1 S.2.1 dX10_far_30 (by decide) ?_
    exact g_iret S Wd hr hlk dX10_far_31 (-1 : Int32) hf rfl rfl
  · have hf := g_ifn hf c2
    refine lv_aload_n S.1 S.2.1 dX10_far_8 rfl (lv_at hl 0 rfl) ?_
    refine lv_iload_n S.1 S.2.1 dX10_far_9 rfl (lv_at hl 2 rfl) ?_
    obtain ⟨u3, hu3, hf⟩ := g_bind hF hf
    refine g_callV (ws' := (wX10_far cI cB cZ cM cJ cK  a_t a_t_text a_t_corners a_t_streets a_t_ends a_t_time a_t_leaders a_t_home a_t_feet a_t_far a_t_now a_t_isKept a_t_tried a_t_row a_t_who a_t_then a_t_best a_t_seenAs a_t_seenAt a_t_plan t_trace t_typed t_at t_start t_sort t_value t_fault t_rowLong t_homes t_bestValue t_seen t_planMany t_corners t_far)) (As := [.int x2]) (rest := []) (st1 := [.int u3]) S hK hA Wd (c_X10_isCorner l D N cI cB cZ cM cJ cK a_t a_t_text a_t_corners a_t_streets a_t_ends a_t_time a_t_leaders a_t_home a_t_feet a_t_far a_t_now a_t_isKept a_t_tried a_t_row a_t_who a_t_then a_t_best a_t_seenAs a_t_seenAt a_t_plan t_trace t_typed t_at t_start t_sort t_value t_fault t_rowLong t_homes t_bestValue t_seen t_planMany t_corners x2) (cwV 1 S.2.2.2.2 gX10_far_X10_isCorner rfl rfl rfl n_X10_isCorner ⟨Nat.le_of_ble_eq_true rfl, Nat.le_of_ble_eq_true rfl⟩) hu3 [0, 1] rfl rfl 0 10 rfl rfl rfl rfl rfl rfl rfl hl.1 rfl (Nat.le_of_ble_eq_true rfl) dX10_far_10 ⟨Nat.zero_le _, Nat.zero_le _⟩ (fun H locs Wd => ?_)
    refine lv_if_eq (tgt := 30) S.1 S.2.1 dX10_far_13 rfl (fun c4 => ?_) (fun c4 => ?_)
    · have hf := g_if hf c4
      refine lv_iconst (v := (-1)) S.1 S.2.1 dX10_far_30 (by decide) ?_
      exact g_iret S Wd hr hlk dX10_far_31 (-1 : Int32) hf rfl rfl
    · have hf := g_ifn hf c4
      refine lv_aload_n S.1 S.2.1 dX10_far_16 rfl (lv_at hl 0 rfl) ?_
      refine g_get (a := a_t) S hK Wd iX10_far_X10 0 rfl rfl 15 rfl rfl kX10_far_1 rfl dX10_far_17 ?_
      refine lv_bipush (v := 8) S.1 S.2.1 dX10_far_20 (by decide) ?_
      refine lv_iload_n S.1 S.2.1 dX10_far_22 rfl (lv_at hl 1 rfl) ?_
      refine lv_imul S.1 S.2.1 dX10_far_23 ?_
      refine lv_iload_n S.1 S.2.1 dX10_far_24 rfl (lv_at hl 2 rfl) ?_
      refine lv_iadd S.1 S.2.1 dX10_far_25 ?_
      obtain ⟨h5, hf⟩ := g_gi hF hf
      refine g_iald (a := a_t_far) S hK Wd 2 0 rfl rfl h5 dX10_far_26 ?_
      refine lv_goto (tgt := 31) S.1 S.2.1 dX10_far_27 rfl ?_
      exact g_iret S Wd hr hlk dX10_far_31 (t_far (((8 : Int32) * x1) + x2).toNatClampNeg) hf rfl rfl
def wX10_manyOf (cI cB cZ cM cJ cK : ClassId)  : List va_W := []
def rmX10_manyOf : Room := { frames := 0, cells := 0, slots := 0, locals := 0 }
theorem n_X10_manyOf : yX10_manyOf.cls ≠ "java/lang/invoke/MethodHandle" ∧ yX10_manyOf.cls ≠ "java/lang/invoke/VarHandle" ∧ (parseMethodDescriptor yX10_manyOf.desc).map (fun d => d.parameters.length) = some 1 := by decide +kernel
set_option maxHeartbeats 4000000 in
set_option maxRecDepth 100000 in
theorem c_X10_manyOf (l : Launch) (D : va_G) (N : Nat) (cI cB cZ cM cJ cK : ClassId) (x0 : Int32) : gM l yX10_manyOf wsX10_manyOf rmX10_manyOf D (gT cI cB cZ cM cJ cK) (wX10_manyOf cI cB cZ cM cJ cK   ) [.int x0] (fX10_manyOf N x0) (fun _u : Int32 => some (.int _u)) (fun _u : Int32 => (wX10_manyOf cI cB cZ cM cJ cK   )) := by
  refine g_start (cc := cX10_manyOf) (maxL := 3) (ret := (some .int)) (by decide) rfl (Nat.le_of_ble_eq_true rfl) ?_
  intro F hf hF p e s m below meth c A ls S hK hA Wd hr hlk hnm hl
  have b4 : ∀ (n : Nat), ∀ (x1 x2 : Int32) (H1 : Heap) (locs1 : List Loc) (ls1 : Array Slot), gw D A s.heap (wX10_manyOf cI cB cZ cM cJ cK   ) H1 locs1 → lv_has ls1 3 [(0, .int x0), (1, .int x1), (2, .int x2)] → F = fX10_manyOf_b4 N x0  n x1 x2 → W p l e rmX10_manyOf s m [.int x0].toArray below meth c H1 locs1 0 0 (MQ below (gQ F (fun _u : Int32 => some (.int _u)) (fun _u : Int32 => (wX10_manyOf cI cB cZ cM cJ cK   )) D A) [.int x0].toArray s 0 0 A) (F0 m 4 ls1 []) := by
    intro  n
    induction n with
    | zero => intro x1 x2 H locs ls Wd hl hf; exact absurd hf hF
    | succ n ih =>
      intro x1 x2 H locs ls Wd hl hf
      refine lv_iload_n S.1 S.2.1 dX10_manyOf_4 rfl (lv_at hl 2 rfl) ?_
      refine lv_bipush (v := 16) S.1 S.2.1 dX10_manyOf_5 (by decide) ?_
      refine lv_icmp_ge (tgt := 24) S.1 S.2.1 dX10_manyOf_7 rfl (fun c1 => ?_) (fun c1 => ?_)
      · have hf := g_if hf c1
        refine lv_iload_n S.1 S.2.1 dX10_manyOf_24 rfl (lv_at hl 1 rfl) ?_
        exact g_iret S Wd hr hlk dX10_manyOf_25 x1 hf rfl rfl
      · have hf := g_ifn hf c1
        refine lv_iload_n S.1 S.2.1 dX10_manyOf_10 rfl (lv_at hl 1 rfl) ?_
        refine lv_iload_n S.1 S.2.1 dX10_manyOf_11 rfl (lv_at hl 0 rfl) ?_
        refine lv_iload_n S.1 S.2.1 dX10_manyOf_12 rfl (lv_at hl 2 rfl) ?_
        refine lv_ishr S.1 S.2.1 dX10_manyOf_13 ?_
        refine lv_iconst (v := 1) S.1 S.2.1 dX10_manyOf_14 (by decide) ?_
        refine lv_iand S.1 S.2.1 dX10_manyOf_15 ?_
        refine lv_iadd S.1 S.2.1 dX10_manyOf_16 ?_
        refine lv_istore_n (lv' := [(1, .int (x1 + ((x0 >>> (x2 &&& 31)) &&& (1 : Int32)))), (0, .int x0), (2, .int x2)]) S.1 S.2.1 dX10_manyOf_17 rfl hl (by decide) rfl (fun ls hl => ?_)
        refine lv_iinc (v := (x2 + (1 : Int32))) (lv' := [(2, .int (x2 + (1 : Int32))), (1, .int (x1 + ((x0 >>> (x2 &&& 31)) &&& (1 : Int32)))), (0, .int x0)]) S.1 S.2.1 dX10_manyOf_18 hl (k := 2) rfl rfl (by decide) rfl (fun ls hl => ?_)
        refine lv_goto (tgt := 4) S.1 S.2.1 dX10_manyOf_21 rfl ?_
        exact ih (x1 + ((x0 >>> (x2 &&& 31)) &&& (1 : Int32))) (x2 + (1 : Int32)) _ _ _ Wd (lv_sub hl [2, 1, 0] rfl) hf
  refine lv_iconst (v := 0) S.1 S.2.1 dX10_manyOf_0 (by decide) ?_
  refine lv_istore_n (lv' := [(1, .int (0 : Int32)), (0, .int x0)]) S.1 S.2.1 dX10_manyOf_1 rfl hl (by decide) rfl (fun ls hl => ?_)
  refine lv_iconst (v := 0) S.1 S.2.1 dX10_manyOf_2 (by decide) ?_
  refine lv_istore_n (lv' := [(2, .int (0 : Int32)), (1, .int (0 : Int32)), (0, .int x0)]) S.1 S.2.1 dX10_manyOf_3 rfl hl (by decide) rfl (fun ls hl => ?_)
  exact b4  N (0 : Int32) (0 : Int32) _ _ _ Wd (lv_sub hl [2, 1, 0] rfl) hf
def wX10_take (cI cB cZ cM cJ cK : ClassId) (a_t a_t_text a_t_corners a_t_streets a_t_ends a_t_time a_t_leaders a_t_home a_t_feet a_t_far a_t_now a_t_isKept a_t_tried a_t_row a_t_who a_t_then a_t_best a_t_seenAs a_t_seenAt a_t_plan : Nat) (t_trace : Int64) (t_typed t_at t_start t_sort t_value t_fault t_rowLong t_homes t_bestValue t_seen t_planMany : Int32) (t_now t_tried : Nat → Int32) : List va_W := [[(a_t, .inr (10, [.long t_trace, .ref a_t_text, .int t_typed, .ref a_t_corners, .ref a_t_streets, .ref a_t_ends, .ref a_t_time, .ref a_t_leaders, .ref a_t_home, .ref a_t_feet, .int t_at, .int t_start, .int t_sort, .int t_value, .int t_fault, .ref a_t_far, .ref a_t_now, .ref a_t_isKept, .ref a_t_tried, .ref a_t_row, .int t_rowLong, .ref a_t_who, .ref a_t_then, .int t_homes, .ref a_t_best, .int t_bestValue, .ref a_t_seenAs, .ref a_t_seenAt, .int t_seen, .ref a_t_plan, .int t_planMany]))], [(a_t_now, .inl (cI, 564, .inl t_now))], [(a_t_tried, .inl (cI, 17, .inl t_tried))]]
def rmX10_take : Room := { frames := 0, cells := 0, slots := 0, locals := 0 }
theorem kX10_take_1 : Cond.fieldLink RX10 45 "FeastMarchModel" "tried" "[I" ∈ wsX10_take := List.mem_of_getElem? (i := 1) rfl
theorem kX10_take_2 : Cond.fieldLink RX10 38 "FeastMarchModel" "now" "[I" ∈ wsX10_take := List.mem_of_getElem? (i := 2) rfl
theorem iX10_take_X10 : ∀ w ∈ wsX100, w ∈ wsX10_take := fun _ h => List.mem_cons_of_mem _ (List.mem_append_right _ h)
theorem n_X10_take : yX10_take.cls = RX10 ∧ yX10_take.cls ≠ "java/lang/invoke/MethodHandle" ∧ yX10_take.cls ≠ "java/lang/invoke/VarHandle" ∧ (parseMethodDescriptor yX10_take.desc).map (fun d => d.parameters.length) = some 0 := by decide +kernel
set_option maxHeartbeats 4000000 in
set_option maxRecDepth 100000 in
theorem c_X10_take (l : Launch) (D : va_G) (N : Nat) (cI cB cZ cM cJ cK : ClassId) (a_t a_t_text a_t_corners a_t_streets a_t_ends a_t_time a_t_leaders a_t_home a_t_feet a_t_far a_t_now a_t_isKept a_t_tried a_t_row a_t_who a_t_then a_t_best a_t_seenAs a_t_seenAt a_t_plan : Nat) (t_trace : Int64) (t_typed t_at t_start t_sort t_value t_fault t_rowLong t_homes t_bestValue t_seen t_planMany : Int32) (t_now t_tried : Nat → Int32) : gM l yX10_take wsX10_take rmX10_take D (gT cI cB cZ cM cJ cK) (wX10_take cI cB cZ cM cJ cK  a_t a_t_text a_t_corners a_t_streets a_t_ends a_t_time a_t_leaders a_t_home a_t_feet a_t_far a_t_now a_t_isKept a_t_tried a_t_row a_t_who a_t_then a_t_best a_t_seenAs a_t_seenAt a_t_plan t_trace t_typed t_at t_start t_sort t_value t_fault t_rowLong t_homes t_bestValue t_seen t_planMany t_now t_tried) [.ref a_t] (fX10_take N t_now t_tried) (fun _u : (Nat → Int32) => none) (fun _u : (Nat → Int32) => (wX10_take cI cB cZ cM cJ cK  a_t a_t_text a_t_corners a_t_streets a_t_ends a_t_time a_t_leaders a_t_home a_t_feet a_t_far a_t_now a_t_isKept a_t_tried a_t_row a_t_who a_t_then a_t_best a_t_seenAs a_t_seenAt a_t_plan t_trace t_typed t_at t_start t_sort t_value t_fault t_rowLong t_homes t_bestValue t_seen t_planMany t_now _u)) := by
  refine g_start (cc := cX10_take) (maxL := 2) (ret := none) (by decide) rfl (Nat.le_of_ble_eq_true rfl) ?_
  intro F hf hF p e s m below meth c A ls S hK hA Wd hr hlk hnm hl
  have b2 : ∀ (n : Nat), ∀ (t_tried : Nat → Int32) (x1 : Int32) (H1 : Heap) (locs1 : List Loc) (ls1 : Array Slot), gw D A s.heap (wX10_take cI cB cZ cM cJ cK  a_t a_t_text a_t_corners a_t_streets a_t_ends a_t_time a_t_leaders a_t_home a_t_feet a_t_far a_t_now a_t_isKept a_t_tried a_t_row a_t_who a_t_then a_t_best a_t_seenAs a_t_seenAt a_t_plan t_trace t_typed t_at t_start t_sort t_value t_fault t_rowLong t_homes t_bestValue t_seen t_planMany t_now t_tried) H1 locs1 → lv_has ls1 2 [(0, .ref a_t), (1, .int x1)] → F = fX10_take_b2 N t_now  n t_tried x1 → W p l e rmX10_take s m [.ref a_t].toArray below meth c H1 locs1 0 0 (MQ below (gQ F (fun _u : (Nat → Int32) => none) (fun _u : (Nat → Int32) => (wX10_take cI cB cZ cM cJ cK  a_t a_t_text a_t_corners a_t_streets a_t_ends a_t_time a_t_leaders a_t_home a_t_feet a_t_far a_t_now a_t_isKept a_t_tried a_t_row a_t_who a_t_then a_t_best a_t_seenAs a_t_seenAt a_t_plan t_trace t_typed t_at t_start t_sort t_value t_fault t_rowLong t_homes t_bestValue t_seen t_planMany t_now _u)) D A) [.ref a_t].toArray s 0 0 A) (F0 m 2 ls1 []) := by
    intro  n
    induction n with
    | zero => intro t_tried x1 H locs ls Wd hl hf; exact absurd hf hF
    | succ n ih =>
      intro t_tried x1 H locs ls Wd hl hf
      refine lv_iload_n S.1 S.2.1 dX10_take_2 rfl (lv_at hl 1 rfl) ?_
      refine lv_bipush (v := 17) S.1 S.2.1 dX10_take_3 (by decide) ?_
      refine lv_icmp_ge (tgt := 26) S.1 S.2.1 dX10_take_5 rfl (fun c1 => ?_) (fun c1 => ?_)
      · have hf := g_if hf c1
        exact g_vret S Wd hr hlk dX10_take_26 t_tried hf rfl rfl
      · have hf := g_ifn hf c1
        refine lv_aload_n S.1 S.2.1 dX10_take_8 rfl (lv_at hl 0 rfl) ?_
        refine g_get (a := a_t) S hK Wd iX10_take_X10 0 rfl rfl 18 rfl rfl kX10_take_1 rfl dX10_take_9 ?_
        refine lv_iload_n S.1 S.2.1 dX10_take_12 rfl (lv_at hl 1 rfl) ?_
        refine lv_aload_n S.1 S.2.1 dX10_take_13 rfl (lv_at hl 0 rfl) ?_
        refine g_get (a := a_t) S hK Wd iX10_take_X10 0 rfl rfl 16 rfl rfl kX10_take_2 rfl dX10_take_14 ?_
        refine lv_iload_n S.1 S.2.1 dX10_take_17 rfl (lv_at hl 1 rfl) ?_
        obtain ⟨h2, hf⟩ := g_gi hF hf
        refine g_iald (a := a_t_now) S hK Wd 1 0 rfl rfl h2 dX10_take_18 ?_
        obtain ⟨h3, hf⟩ := g_gi hF hf
        refine g_iast (a := a_t_tried) (ws' := (wX10_take cI cB cZ cM cJ cK  a_t a_t_text a_t_corners a_t_streets a_t_ends a_t_time a_t_leaders a_t_home a_t_feet a_t_far a_t_now a_t_isKept a_t_tried a_t_row a_t_who a_t_then a_t_best a_t_seenAs a_t_seenAt a_t_plan t_trace t_typed t_at t_start t_sort t_value t_fault t_rowLong t_homes t_bestValue t_seen t_planMany t_now (upd t_tried x1.toNatClampNeg (t_now x1.toNatClampNeg)))) S hK Wd 2 0 rfl rfl h3 dX10_take_19 rfl (fun H locs Wd => ?_)
        refine lv_iinc (v := (x1 + (1 : Int32))) (lv' := [(1, .int (x1 + (1 : Int32))), (0, .ref a_t)]) S.1 S.2.1 dX10_take_20 hl (k := 1) rfl rfl (by decide) rfl (fun ls hl => ?_)
        refine lv_goto (tgt := 2) S.1 S.2.1 dX10_take_23 rfl ?_
        exact ih (upd t_tried x1.toNatClampNeg (t_now x1.toNatClampNeg)) (x1 + (1 : Int32)) _ _ _ Wd (lv_sub hl [1, 0] rfl) hf
  refine lv_iconst (v := 0) S.1 S.2.1 dX10_take_0 (by decide) ?_
  refine lv_istore_n (lv' := [(1, .int (0 : Int32)), (0, .ref a_t)]) S.1 S.2.1 dX10_take_1 rfl hl (by decide) rfl (fun ls hl => ?_)
  exact b2  N t_tried (0 : Int32) _ _ _ Wd (lv_sub hl [1, 0] rfl) hf
def wX10_way (cI cB cZ cM cJ cK : ClassId) (n_p1 a_t a_t_text a_t_corners a_t_streets a_t_ends a_t_time a_t_leaders a_t_home a_t_feet a_t_far a_t_now a_t_isKept a_t_tried a_t_row a_t_who a_t_then a_t_best a_t_seenAs a_t_seenAt a_t_plan a_p1 : Nat) (t_trace : Int64) (t_typed t_at t_start t_sort t_value t_fault t_rowLong t_homes t_bestValue t_seen t_planMany : Int32) (t_streets t_ends t_time t_home t_far p1 : Nat → Int32) : List va_W := [[(a_t, .inr (10, [.long t_trace, .ref a_t_text, .int t_typed, .ref a_t_corners, .ref a_t_streets, .ref a_t_ends, .ref a_t_time, .ref a_t_leaders, .ref a_t_home, .ref a_t_feet, .int t_at, .int t_start, .int t_sort, .int t_value, .int t_fault, .ref a_t_far, .ref a_t_now, .ref a_t_isKept, .ref a_t_tried, .ref a_t_row, .int t_rowLong, .ref a_t_who, .ref a_t_then, .int t_homes, .ref a_t_best, .int t_bestValue, .ref a_t_seenAs, .ref a_t_seenAt, .int t_seen, .ref a_t_plan, .int t_planMany]))], [(a_t_streets, .inl (cI, 2, .inl t_streets))], [(a_t_ends, .inl (cI, 48, .inl t_ends))], [(a_t_time, .inl (cI, 24, .inl t_time))], [(a_t_home, .inl (cI, 12, .inl t_home))], [(a_t_far, .inl (cI, 64, .inl t_far))], [(a_p1, .inl (cI, n_p1, .inl p1))]]
def rmX10_way : Room := { frames := 0, cells := 0, slots := 0, locals := 0 }
theorem kX10_way_1 : Cond.fieldLink RX10 17 "FeastMarchModel" "streets" "[I" ∈ wsX10_way := List.mem_of_getElem? (i := 1) rfl
theorem kX10_way_2 : Cond.fieldLink RX10 20 "FeastMarchModel" "ends" "[I" ∈ wsX10_way := List.mem_of_getElem? (i := 2) rfl
theorem kX10_way_3 : Cond.fieldLink RX10 35 "FeastMarchModel" "far" "[I" ∈ wsX10_way := List.mem_of_getElem? (i := 3) rfl
theorem kX10_way_4 : Cond.fieldLink RX10 29 "FeastMarchModel" "home" "[I" ∈ wsX10_way := List.mem_of_getElem? (i := 4) rfl
theorem kX10_way_5 : Cond.fieldLink RX10 23 "FeastMarchModel" "time" "[I" ∈ wsX10_way := List.mem_of_getElem? (i := 5) rfl
theorem iX10_way_X10 : ∀ w ∈ wsX100, w ∈ wsX10_way := fun _ h => List.mem_cons_of_mem _ (List.mem_append_right _ h)
theorem n_X10_way : yX10_way.cls = RX10 ∧ yX10_way.cls ≠ "java/lang/invoke/MethodHandle" ∧ yX10_way.cls ≠ "java/lang/invoke/VarHandle" ∧ (parseMethodDescriptor yX10_way.desc).map (fun d => d.parameters.length) = some 2 := by decide +kernel
set_option maxHeartbeats 4000000 in
set_option maxRecDepth 100000 in
theorem c_X10_way (l : Launch) (D : va_G) (N : Nat) (cI cB cZ cM cJ cK : ClassId) (n_p1 a_t a_t_text a_t_corners a_t_streets a_t_ends a_t_time a_t_leaders a_t_home a_t_feet a_t_far a_t_now a_t_isKept a_t_tried a_t_row a_t_who a_t_then a_t_best a_t_seenAs a_t_seenAt a_t_plan a_p1 : Nat) (t_trace : Int64) (t_typed t_at t_start t_sort t_value t_fault t_rowLong t_homes t_bestValue t_seen t_planMany : Int32) (t_streets t_ends t_time t_home t_far p1 : Nat → Int32) (x2 : Int32) : gM l yX10_way wsX10_way rmX10_way D (gT cI cB cZ cM cJ cK) (wX10_way cI cB cZ cM cJ cK n_p1 a_t a_t_text a_t_corners a_t_streets a_t_ends a_t_time a_t_leaders a_t_home a_t_feet a_t_far a_t_now a_t_isKept a_t_tried a_t_row a_t_who a_t_then a_t_best a_t_seenAs a_t_seenAt a_t_plan a_p1 t_trace t_typed t_at t_start t_sort t_value t_fault t_rowLong t_homes t_bestValue t_seen t_planMany t_streets t_ends t_time t_home t_far p1) [.ref a_t, .ref a_p1, .int x2] (fX10_way N n_p1 t_streets t_ends t_time t_home t_far p1 x2) (fun _u : Int32 => some (.int _u)) (fun _u : Int32 => (wX10_way cI cB cZ cM cJ cK n_p1 a_t a_t_text a_t_corners a_t_streets a_t_ends a_t_time a_t_leaders a_t_home a_t_feet a_t_far a_t_now a_t_isKept a_t_tried a_t_row a_t_who a_t_then a_t_best a_t_seenAs a_t_seenAt a_t_plan a_p1 t_trace t_typed t_at t_start t_sort t_value t_fault t_rowLong t_homes t_bestValue t_seen t_planMany t_streets t_ends t_time t_home t_far p1)) := by
  refine g_start (cc := cX10_way) (maxL := 9) (ret := (some .int)) (by decide) rfl (Nat.le_of_ble_eq_true rfl) ?_
  intro F hf hF p e s m below meth c A ls S hK hA Wd hr hlk hnm hl
  have b151 : ∀ (K9 : Int32 → Int32 → Int32 → Option (Int32)) (hK9 : ∀ (x3 x4 x5 : Int32) (H1 : Heap) (locs1 : List Loc) (ls1 : Array Slot), gw D A s.heap (wX10_way cI cB cZ cM cJ cK n_p1 a_t a_t_text a_t_corners a_t_streets a_t_ends a_t_time a_t_leaders a_t_home a_t_feet a_t_far a_t_now a_t_isKept a_t_tried a_t_row a_t_who a_t_then a_t_best a_t_seenAs a_t_seenAt a_t_plan a_p1 t_trace t_typed t_at t_start t_sort t_value t_fault t_rowLong t_homes t_bestValue t_seen t_planMany t_streets t_ends t_time t_home t_far p1) H1 locs1 → lv_has ls1 9 [(0, .ref a_t), (1, .ref a_p1), (2, .int x2), (3, .int x3), (4, .int x4), (5, .int x5)] → F = K9 x3 x4 x5 → W p l e rmX10_way s m [.ref a_t, .ref a_p1, .int x2].toArray below meth c H1 locs1 0 0 (MQ below (gQ F (fun _u : Int32 => some (.int _u)) (fun _u : Int32 => (wX10_way cI cB cZ cM cJ cK n_p1 a_t a_t_text a_t_corners a_t_streets a_t_ends a_t_time a_t_leaders a_t_home a_t_feet a_t_far a_t_now a_t_isKept a_t_tried a_t_row a_t_who a_t_then a_t_best a_t_seenAs a_t_seenAt a_t_plan a_p1 t_trace t_typed t_at t_start t_sort t_value t_fault t_rowLong t_homes t_bestValue t_seen t_planMany t_streets t_ends t_time t_home t_far p1)) D A) [.ref a_t, .ref a_p1, .int x2].toArray s 0 0 A) (F0 m 9 ls1 [])) (K23 : Int32 → Int32 → Int32 → Int32 → Option (Int32)) (hK23 : ∀ (x3 x4 x5 x6 : Int32) (H1 : Heap) (locs1 : List Loc) (ls1 : Array Slot), gw D A s.heap (wX10_way cI cB cZ cM cJ cK n_p1 a_t a_t_text a_t_corners a_t_streets a_t_ends a_t_time a_t_leaders a_t_home a_t_feet a_t_far a_t_now a_t_isKept a_t_tried a_t_row a_t_who a_t_then a_t_best a_t_seenAs a_t_seenAt a_t_plan a_p1 t_trace t_typed t_at t_start t_sort t_value t_fault t_rowLong t_homes t_bestValue t_seen t_planMany t_streets t_ends t_time t_home t_far p1) H1 locs1 → lv_has ls1 9 [(0, .ref a_t), (1, .ref a_p1), (2, .int x2), (3, .int x3), (4, .int x4), (5, .int x5), (6, .int x6)] → F = K23 x3 x4 x5 x6 → W p l e rmX10_way s m [.ref a_t, .ref a_p1, .int x2].toArray below meth c H1 locs1 0 0 (MQ below (gQ F (fun _u : Int32 => some (.int _u)) (fun _u : Int32 => (wX10_way cI cB cZ cM cJ cK n_p1 a_t a_t_text a_t_corners a_t_streets a_t_ends a_t_time a_t_leaders a_t_home a_t_feet a_t_far a_t_now a_t_isKept a_t_tried a_t_row a_t_who a_t_then a_t_best a_t_seenAs a_t_seenAt a_t_plan a_p1 t_trace t_typed t_at t_start t_sort t_value t_fault t_rowLong t_homes t_bestValue t_seen t_planMany t_streets t_ends t_time t_home t_far p1)) D A) [.ref a_t, .ref a_p1, .int x2].toArray s 0 0 A) (F0 m 23 ls1 [])) , ∀ (x3 x4 x5 x6 : Int32) (H1 : Heap) (locs1 : List Loc) (ls1 : Array Slot), gw D A s.heap (wX10_way cI cB cZ cM cJ cK n_p1 a_t a_t_text a_t_corners a_t_streets a_t_ends a_t_time a_t_leaders a_t_home a_t_feet a_t_far a_t_now a_t_isKept a_t_tried a_t_row a_t_who a_t_then a_t_best a_t_seenAs a_t_seenAt a_t_plan a_p1 t_trace t_typed t_at t_start t_sort t_value t_fault t_rowLong t_homes t_bestValue t_seen t_planMany t_streets t_ends t_time t_home t_far p1) H1 locs1 → lv_has ls1 9 [(0, .ref a_t), (1, .ref a_p1), (2, .int x2), (3, .int x3), (4, .int x4), (5, .int x5), (6, .int x6)] → F = fX10_way_b151 N n_p1 t_streets t_ends t_time t_home t_far p1 x2 K9 K23 x3 x4 x5 x6 → W p l e rmX10_way s m [.ref a_t, .ref a_p1, .int x2].toArray below meth c H1 locs1 0 0 (MQ below (gQ F (fun _u : Int32 => some (.int _u)) (fun _u : Int32 => (wX10_way cI cB cZ cM cJ cK n_p1 a_t a_t_text a_t_corners a_t_streets a_t_ends a_t_time a_t_leaders a_t_home a_t_feet a_t_far a_t_now a_t_isKept a_t_tried a_t_row a_t_who a_t_then a_t_best a_t_seenAs a_t_seenAt a_t_plan a_p1 t_trace t_typed t_at t_start t_sort t_value t_fault t_rowLong t_homes t_bestValue t_seen t_planMany t_streets t_ends t_time t_home t_far p1)) D A) [.ref a_t, .ref a_p1, .int x2].toArray s 0 0 A) (F0 m 151 ls1 []) := by
    intro K9 hK9 K23 hK23 x3 x4 x5 x6 H locs ls Wd hl hf
    refine lv_iinc (v := (x6 + (1 : Int32))) (lv' := [(6, .int (x6 + (1 : Int32))), (0, .ref a_t), (1, .ref a_p1), (2, .int x2), (3, .int x3), (4, .int x4), (5, .int x5)]) S.1 S.2.1 dX10_way_151 hl (k := 6) rfl rfl (by decide) rfl (fun ls hl => ?_)
    refine lv_goto (tgt := 23) S.1 S.2.1 dX10_way_154 rfl ?_
    exact hK23 x3 x4 x5 (x6 + (1 : Int32)) _ _ _ Wd (lv_sub hl [1, 2, 3, 4, 5, 6, 0] rfl) hf
  have b139 : ∀ (K9 : Int32 → Int32 → Int32 → Option (Int32)) (hK9 : ∀ (x3 x4 x5 : Int32) (H1 : Heap) (locs1 : List Loc) (ls1 : Array Slot), gw D A s.heap (wX10_way cI cB cZ cM cJ cK n_p1 a_t a_t_text a_t_corners a_t_streets a_t_ends a_t_time a_t_leaders a_t_home a_t_feet a_t_far a_t_now a_t_isKept a_t_tried a_t_row a_t_who a_t_then a_t_best a_t_seenAs a_t_seenAt a_t_plan a_p1 t_trace t_typed t_at t_start t_sort t_value t_fault t_rowLong t_homes t_bestValue t_seen t_planMany t_streets t_ends t_time t_home t_far p1) H1 locs1 → lv_has ls1 9 [(0, .ref a_t), (1, .ref a_p1), (2, .int x2), (3, .int x3), (4, .int x4), (5, .int x5)] → F = K9 x3 x4 x5 → W p l e rmX10_way s m [.ref a_t, .ref a_p1, .int x2].toArray below meth c H1 locs1 0 0 (MQ below (gQ F (fun _u : Int32 => some (.int _u)) (fun _u : Int32 => (wX10_way cI cB cZ cM cJ cK n_p1 a_t a_t_text a_t_corners a_t_streets a_t_ends a_t_time a_t_leaders a_t_home a_t_feet a_t_far a_t_now a_t_isKept a_t_tried a_t_row a_t_who a_t_then a_t_best a_t_seenAs a_t_seenAt a_t_plan a_p1 t_trace t_typed t_at t_start t_sort t_value t_fault t_rowLong t_homes t_bestValue t_seen t_planMany t_streets t_ends t_time t_home t_far p1)) D A) [.ref a_t, .ref a_p1, .int x2].toArray s 0 0 A) (F0 m 9 ls1 [])) (K23 : Int32 → Int32 → Int32 → Int32 → Option (Int32)) (hK23 : ∀ (x3 x4 x5 x6 : Int32) (H1 : Heap) (locs1 : List Loc) (ls1 : Array Slot), gw D A s.heap (wX10_way cI cB cZ cM cJ cK n_p1 a_t a_t_text a_t_corners a_t_streets a_t_ends a_t_time a_t_leaders a_t_home a_t_feet a_t_far a_t_now a_t_isKept a_t_tried a_t_row a_t_who a_t_then a_t_best a_t_seenAs a_t_seenAt a_t_plan a_p1 t_trace t_typed t_at t_start t_sort t_value t_fault t_rowLong t_homes t_bestValue t_seen t_planMany t_streets t_ends t_time t_home t_far p1) H1 locs1 → lv_has ls1 9 [(0, .ref a_t), (1, .ref a_p1), (2, .int x2), (3, .int x3), (4, .int x4), (5, .int x5), (6, .int x6)] → F = K23 x3 x4 x5 x6 → W p l e rmX10_way s m [.ref a_t, .ref a_p1, .int x2].toArray below meth c H1 locs1 0 0 (MQ below (gQ F (fun _u : Int32 => some (.int _u)) (fun _u : Int32 => (wX10_way cI cB cZ cM cJ cK n_p1 a_t a_t_text a_t_corners a_t_streets a_t_ends a_t_time a_t_leaders a_t_home a_t_feet a_t_far a_t_now a_t_isKept a_t_tried a_t_row a_t_who a_t_then a_t_best a_t_seenAs a_t_seenAt a_t_plan a_p1 t_trace t_typed t_at t_start t_sort t_value t_fault t_rowLong t_homes t_bestValue t_seen t_planMany t_streets t_ends t_time t_home t_far p1)) D A) [.ref a_t, .ref a_p1, .int x2].toArray s 0 0 A) (F0 m 23 ls1 [])) , ∀ (x5 x6 x8 : Int32) (H1 : Heap) (locs1 : List Loc) (ls1 : Array Slot), gw D A s.heap (wX10_way cI cB cZ cM cJ cK n_p1 a_t a_t_text a_t_corners a_t_streets a_t_ends a_t_time a_t_leaders a_t_home a_t_feet a_t_far a_t_now a_t_isKept a_t_tried a_t_row a_t_who a_t_then a_t_best a_t_seenAs a_t_seenAt a_t_plan a_p1 t_trace t_typed t_at t_start t_sort t_value t_fault t_rowLong t_homes t_bestValue t_seen t_planMany t_streets t_ends t_time t_home t_far p1) H1 locs1 → lv_has ls1 9 [(0, .ref a_t), (1, .ref a_p1), (2, .int x2), (5, .int x5), (6, .int x6), (8, .int x8)] → F = fX10_way_b139 N n_p1 t_streets t_ends t_time t_home t_far p1 x2 K9 K23 x5 x6 x8 → W p l e rmX10_way s m [.ref a_t, .ref a_p1, .int x2].toArray below meth c H1 locs1 0 0 (MQ below (gQ F (fun _u : Int32 => some (.int _u)) (fun _u : Int32 => (wX10_way cI cB cZ cM cJ cK n_p1 a_t a_t_text a_t_corners a_t_streets a_t_ends a_t_time a_t_leaders a_t_home a_t_feet a_t_far a_t_now a_t_isKept a_t_tried a_t_row a_t_who a_t_then a_t_best a_t_seenAs a_t_seenAt a_t_plan a_p1 t_trace t_typed t_at t_start t_sort t_value t_fault t_rowLong t_homes t_bestValue t_seen t_planMany t_streets t_ends t_time t_home t_far p1)) D A) [.ref a_t, .ref a_p1, .int x2].toArray s 0 0 A) (F0 m 139 ls1 []) := by
    intro K9 hK9 K23 hK23 x5 x6 x8 H locs ls Wd hl hf
    refine lv_iconst (v := 2) S.1 S.2.1 dX10_way_139 (by decide) ?_
    refine lv_iload S.1 S.2.1 dX10_way_140 (lv_at hl 3 rfl) ?_
    refine lv_imul S.1 S.2.1 dX10_way_142 ?_
    refine lv_iload S.1 S.2.1 dX10_way_143 (lv_at hl 4 rfl) ?_
    refine lv_iadd S.1 S.2.1 dX10_way_145 ?_
    refine lv_istore_n (lv' := [(3, .int (((2 : Int32) * x5) + x6)), (0, .ref a_t), (1, .ref a_p1), (2, .int x2), (5, .int x5), (6, .int x6), (8, .int x8)]) S.1 S.2.1 dX10_way_146 rfl hl (by decide) rfl (fun ls hl => ?_)
    refine lv_iload S.1 S.2.1 dX10_way_147 (lv_at hl 6 rfl) ?_
    refine lv_istore (lv' := [(4, .int x8), (3, .int (((2 : Int32) * x5) + x6)), (0, .ref a_t), (1, .ref a_p1), (2, .int x2), (5, .int x5), (6, .int x6), (8, .int x8)]) S.1 S.2.1 dX10_way_149 hl (by decide) rfl (fun ls hl => ?_)
    exact b151 K9 hK9 K23 hK23 (((2 : Int32) * x5) + x6) x8 x5 x6 _ _ _ Wd (lv_sub hl [2, 3, 4, 1, 0, 5, 6] rfl) hf
  have b77 : ∀ (K9 : Int32 → Int32 → Int32 → Option (Int32)) (hK9 : ∀ (x3 x4 x5 : Int32) (H1 : Heap) (locs1 : List Loc) (ls1 : Array Slot), gw D A s.heap (wX10_way cI cB cZ cM cJ cK n_p1 a_t a_t_text a_t_corners a_t_streets a_t_ends a_t_time a_t_leaders a_t_home a_t_feet a_t_far a_t_now a_t_isKept a_t_tried a_t_row a_t_who a_t_then a_t_best a_t_seenAs a_t_seenAt a_t_plan a_p1 t_trace t_typed t_at t_start t_sort t_value t_fault t_rowLong t_homes t_bestValue t_seen t_planMany t_streets t_ends t_time t_home t_far p1) H1 locs1 → lv_has ls1 9 [(0, .ref a_t), (1, .ref a_p1), (2, .int x2), (3, .int x3), (4, .int x4), (5, .int x5)] → F = K9 x3 x4 x5 → W p l e rmX10_way s m [.ref a_t, .ref a_p1, .int x2].toArray below meth c H1 locs1 0 0 (MQ below (gQ F (fun _u : Int32 => some (.int _u)) (fun _u : Int32 => (wX10_way cI cB cZ cM cJ cK n_p1 a_t a_t_text a_t_corners a_t_streets a_t_ends a_t_time a_t_leaders a_t_home a_t_feet a_t_far a_t_now a_t_isKept a_t_tried a_t_row a_t_who a_t_then a_t_best a_t_seenAs a_t_seenAt a_t_plan a_p1 t_trace t_typed t_at t_start t_sort t_value t_fault t_rowLong t_homes t_bestValue t_seen t_planMany t_streets t_ends t_time t_home t_far p1)) D A) [.ref a_t, .ref a_p1, .int x2].toArray s 0 0 A) (F0 m 9 ls1 [])) (K23 : Int32 → Int32 → Int32 → Int32 → Option (Int32)) (hK23 : ∀ (x3 x4 x5 x6 : Int32) (H1 : Heap) (locs1 : List Loc) (ls1 : Array Slot), gw D A s.heap (wX10_way cI cB cZ cM cJ cK n_p1 a_t a_t_text a_t_corners a_t_streets a_t_ends a_t_time a_t_leaders a_t_home a_t_feet a_t_far a_t_now a_t_isKept a_t_tried a_t_row a_t_who a_t_then a_t_best a_t_seenAs a_t_seenAt a_t_plan a_p1 t_trace t_typed t_at t_start t_sort t_value t_fault t_rowLong t_homes t_bestValue t_seen t_planMany t_streets t_ends t_time t_home t_far p1) H1 locs1 → lv_has ls1 9 [(0, .ref a_t), (1, .ref a_p1), (2, .int x2), (3, .int x3), (4, .int x4), (5, .int x5), (6, .int x6)] → F = K23 x3 x4 x5 x6 → W p l e rmX10_way s m [.ref a_t, .ref a_p1, .int x2].toArray below meth c H1 locs1 0 0 (MQ below (gQ F (fun _u : Int32 => some (.int _u)) (fun _u : Int32 => (wX10_way cI cB cZ cM cJ cK n_p1 a_t a_t_text a_t_corners a_t_streets a_t_ends a_t_time a_t_leaders a_t_home a_t_feet a_t_far a_t_now a_t_isKept a_t_tried a_t_row a_t_who a_t_then a_t_best a_t_seenAs a_t_seenAt a_t_plan a_p1 t_trace t_typed t_at t_start t_sort t_value t_fault t_rowLong t_homes t_bestValue t_seen t_planMany t_streets t_ends t_time t_home t_far p1)) D A) [.ref a_t, .ref a_p1, .int x2].toArray s 0 0 A) (F0 m 23 ls1 [])) , ∀ (x3 x4 x5 x6 y0 : Int32) (H1 : Heap) (locs1 : List Loc) (ls1 : Array Slot), gw D A s.heap (wX10_way cI cB cZ cM cJ cK n_p1 a_t a_t_text a_t_corners a_t_streets a_t_ends a_t_time a_t_leaders a_t_home a_t_feet a_t_far a_t_now a_t_isKept a_t_tried a_t_row a_t_who a_t_then a_t_best a_t_seenAs a_t_seenAt a_t_plan a_p1 t_trace t_typed t_at t_start t_sort t_value t_fault t_rowLong t_homes t_bestValue t_seen t_planMany t_streets t_ends t_time t_home t_far p1) H1 locs1 → lv_has ls1 9 [(0, .ref a_t), (1, .ref a_p1), (2, .int x2), (3, .int x3), (4, .int x4), (5, .int x5), (6, .int x6)] → F = fX10_way_b77 N n_p1 t_streets t_ends t_time t_home t_far p1 x2 K9 K23 x3 x4 x5 x6 y0 → W p l e rmX10_way s m [.ref a_t, .ref a_p1, .int x2].toArray below meth c H1 locs1 0 0 (MQ below (gQ F (fun _u : Int32 => some (.int _u)) (fun _u : Int32 => (wX10_way cI cB cZ cM cJ cK n_p1 a_t a_t_text a_t_corners a_t_streets a_t_ends a_t_time a_t_leaders a_t_home a_t_feet a_t_far a_t_now a_t_isKept a_t_tried a_t_row a_t_who a_t_then a_t_best a_t_seenAs a_t_seenAt a_t_plan a_p1 t_trace t_typed t_at t_start t_sort t_value t_fault t_rowLong t_homes t_bestValue t_seen t_planMany t_streets t_ends t_time t_home t_far p1)) D A) [.ref a_t, .ref a_p1, .int x2].toArray s 0 0 A) (F0 m 77 ls1 [.int y0]) := by
    intro K9 hK9 K23 hK23 x3 x4 x5 x6 y0 H locs ls Wd hl hf
    refine lv_istore (lv' := [(7, .int y0), (0, .ref a_t), (1, .ref a_p1), (2, .int x2), (3, .int x3), (4, .int x4), (5, .int x5), (6, .int x6)]) S.1 S.2.1 dX10_way_77 hl (by decide) rfl (fun ls hl => ?_)
    refine lv_bipush (v := 10) S.1 S.2.1 dX10_way_79 (by decide) ?_
    refine lv_aload_n S.1 S.2.1 dX10_way_81 rfl (lv_at hl 1 rfl) ?_
    refine g_get (a := a_t) S hK Wd iX10_way_X10 0 rfl rfl 15 rfl rfl kX10_way_3 rfl dX10_way_82 ?_
    refine lv_bipush (v := 8) S.1 S.2.1 dX10_way_85 (by decide) ?_
    refine lv_aload_n S.1 S.2.1 dX10_way_87 rfl (lv_at hl 1 rfl) ?_
    refine g_get (a := a_t) S hK Wd iX10_way_X10 0 rfl rfl 5 rfl rfl kX10_way_2 rfl dX10_way_88 ?_
    refine lv_iconst (v := 2) S.1 S.2.1 dX10_way_91 (by decide) ?_
    refine lv_iload S.1 S.2.1 dX10_way_92 (lv_at hl 6 rfl) ?_
    refine lv_imul S.1 S.2.1 dX10_way_94 ?_
    refine lv_iconst (v := 1) S.1 S.2.1 dX10_way_95 (by decide) ?_
    refine lv_iadd S.1 S.2.1 dX10_way_96 ?_
    refine lv_iload S.1 S.2.1 dX10_way_97 (lv_at hl 7 rfl) ?_
    refine lv_isub S.1 S.2.1 dX10_way_99 ?_
    obtain ⟨h10, hf⟩ := g_gi hF hf
    refine g_iald (a := a_t_ends) S hK Wd 2 0 rfl rfl h10 dX10_way_100 ?_
    refine lv_imul S.1 S.2.1 dX10_way_101 ?_
    refine lv_aload_n S.1 S.2.1 dX10_way_102 rfl (lv_at hl 1 rfl) ?_
    refine g_get (a := a_t) S hK Wd iX10_way_X10 0 rfl rfl 8 rfl rfl kX10_way_4 rfl dX10_way_103 ?_
    refine lv_iload_n S.1 S.2.1 dX10_way_106 rfl (lv_at hl 3 rfl) ?_
    obtain ⟨h11, hf⟩ := g_gi hF hf
    refine g_iald (a := a_t_home) S hK Wd 4 0 rfl rfl h11 dX10_way_107 ?_
    refine lv_iadd S.1 S.2.1 dX10_way_108 ?_
    obtain ⟨h12, hf⟩ := g_gi hF hf
    refine g_iald (a := a_t_far) S hK Wd 5 0 rfl rfl h12 dX10_way_109 ?_
    refine lv_imul S.1 S.2.1 dX10_way_110 ?_
    refine lv_aload_n S.1 S.2.1 dX10_way_111 rfl (lv_at hl 1 rfl) ?_
    refine g_get (a := a_t) S hK Wd iX10_way_X10 0 rfl rfl 6 rfl rfl kX10_way_5 rfl dX10_way_112 ?_
    refine lv_iload S.1 S.2.1 dX10_way_115 (lv_at hl 6 rfl) ?_
    obtain ⟨h13, hf⟩ := g_gi hF hf
    refine g_iald (a := a_t_time) S hK Wd 3 0 rfl rfl h13 dX10_way_117 ?_
    refine lv_iadd S.1 S.2.1 dX10_way_118 ?_
    refine lv_istore (lv' := [(8, .int (((10 : Int32) * (t_far (((8 : Int32) * (t_ends ((((2 : Int32) * x5) + (1 : Int32)) - x6).toNatClampNeg)) + (t_home x2.toNatClampNeg)).toNatClampNeg)) + (t_time x5.toNatClampNeg))), (7, .int y0), (0, .ref a_t), (1, .ref a_p1), (2, .int x2), (3, .int x3), (4, .int x4), (5, .int x5), (6, .int x6)]) S.1 S.2.1 dX10_way_119 hl (by decide) rfl (fun ls hl => ?_)
    refine lv_iload S.1 S.2.1 dX10_way_121 (lv_at hl 1 rfl) ?_
    refine lv_if_eq (tgt := 151) S.1 S.2.1 dX10_way_123 rfl (fun c14 => ?_) (fun c14 => ?_)
    · have hf := g_if hf c14
      exact b151 K9 hK9 K23 hK23 x3 x4 x5 x6 _ _ _ Wd (lv_sub hl [2, 3, 4, 5, 6, 7, 8] rfl) hf
    · have hf := g_ifn hf c14
      refine lv_iload_n S.1 S.2.1 dX10_way_126 rfl (lv_at hl 5 rfl) ?_
      refine lv_bipush (v := (-9)) S.1 S.2.1 dX10_way_127 (by decide) ?_
      refine lv_icmp_eq (tgt := 139) S.1 S.2.1 dX10_way_129 rfl (fun c15 => ?_) (fun c15 => ?_)
      · have hf := g_if hf c15
        exact b139 K9 hK9 K23 hK23 x5 x6 (((10 : Int32) * (t_far (((8 : Int32) * (t_ends ((((2 : Int32) * x5) + (1 : Int32)) - x6).toNatClampNeg)) + (t_home x2.toNatClampNeg)).toNatClampNeg)) + (t_time x5.toNatClampNeg)) _ _ _ Wd (lv_sub hl [2, 3, 4, 7, 8, 0] rfl) hf
      · have hf := g_ifn hf c15
        refine lv_iload S.1 S.2.1 dX10_way_132 (lv_at hl 0 rfl) ?_
        refine lv_iload S.1 S.2.1 dX10_way_134 (lv_at hl 6 rfl) ?_
        refine lv_icmp_ge (tgt := 151) S.1 S.2.1 dX10_way_136 rfl (fun c16 => ?_) (fun c16 => ?_)
        · have hf := g_if hf c16
          exact b151 K9 hK9 K23 hK23 x3 x4 x5 x6 _ _ _ Wd (lv_sub hl [2, 3, 4, 5, 6, 7, 8] rfl) hf
        · have hf := g_ifn hf c16
          exact b139 K9 hK9 K23 hK23 x5 x6 (((10 : Int32) * (t_far (((8 : Int32) * (t_ends ((((2 : Int32) * x5) + (1 : Int32)) - x6).toNatClampNeg)) + (t_home x2.toNatClampNeg)).toNatClampNeg)) + (t_time x5.toNatClampNeg)) _ _ _ Wd (lv_sub hl [2, 3, 4, 7, 8, 0] rfl) hf
  have b76 : ∀ (K9 : Int32 → Int32 → Int32 → Option (Int32)) (hK9 : ∀ (x3 x4 x5 : Int32) (H1 : Heap) (locs1 : List Loc) (ls1 : Array Slot), gw D A s.heap (wX10_way cI cB cZ cM cJ cK n_p1 a_t a_t_text a_t_corners a_t_streets a_t_ends a_t_time a_t_leaders a_t_home a_t_feet a_t_far a_t_now a_t_isKept a_t_tried a_t_row a_t_who a_t_then a_t_best a_t_seenAs a_t_seenAt a_t_plan a_p1 t_trace t_typed t_at t_start t_sort t_value t_fault t_rowLong t_homes t_bestValue t_seen t_planMany t_streets t_ends t_time t_home t_far p1) H1 locs1 → lv_has ls1 9 [(0, .ref a_t), (1, .ref a_p1), (2, .int x2), (3, .int x3), (4, .int x4), (5, .int x5)] → F = K9 x3 x4 x5 → W p l e rmX10_way s m [.ref a_t, .ref a_p1, .int x2].toArray below meth c H1 locs1 0 0 (MQ below (gQ F (fun _u : Int32 => some (.int _u)) (fun _u : Int32 => (wX10_way cI cB cZ cM cJ cK n_p1 a_t a_t_text a_t_corners a_t_streets a_t_ends a_t_time a_t_leaders a_t_home a_t_feet a_t_far a_t_now a_t_isKept a_t_tried a_t_row a_t_who a_t_then a_t_best a_t_seenAs a_t_seenAt a_t_plan a_p1 t_trace t_typed t_at t_start t_sort t_value t_fault t_rowLong t_homes t_bestValue t_seen t_planMany t_streets t_ends t_time t_home t_far p1)) D A) [.ref a_t, .ref a_p1, .int x2].toArray s 0 0 A) (F0 m 9 ls1 [])) (K23 : Int32 → Int32 → Int32 → Int32 → Option (Int32)) (hK23 : ∀ (x3 x4 x5 x6 : Int32) (H1 : Heap) (locs1 : List Loc) (ls1 : Array Slot), gw D A s.heap (wX10_way cI cB cZ cM cJ cK n_p1 a_t a_t_text a_t_corners a_t_streets a_t_ends a_t_time a_t_leaders a_t_home a_t_feet a_t_far a_t_now a_t_isKept a_t_tried a_t_row a_t_who a_t_then a_t_best a_t_seenAs a_t_seenAt a_t_plan a_p1 t_trace t_typed t_at t_start t_sort t_value t_fault t_rowLong t_homes t_bestValue t_seen t_planMany t_streets t_ends t_time t_home t_far p1) H1 locs1 → lv_has ls1 9 [(0, .ref a_t), (1, .ref a_p1), (2, .int x2), (3, .int x3), (4, .int x4), (5, .int x5), (6, .int x6)] → F = K23 x3 x4 x5 x6 → W p l e rmX10_way s m [.ref a_t, .ref a_p1, .int x2].toArray below meth c H1 locs1 0 0 (MQ below (gQ F (fun _u : Int32 => some (.int _u)) (fun _u : Int32 => (wX10_way cI cB cZ cM cJ cK n_p1 a_t a_t_text a_t_corners a_t_streets a_t_ends a_t_time a_t_leaders a_t_home a_t_feet a_t_far a_t_now a_t_isKept a_t_tried a_t_row a_t_who a_t_then a_t_best a_t_seenAs a_t_seenAt a_t_plan a_p1 t_trace t_typed t_at t_start t_sort t_value t_fault t_rowLong t_homes t_bestValue t_seen t_planMany t_streets t_ends t_time t_home t_far p1)) D A) [.ref a_t, .ref a_p1, .int x2].toArray s 0 0 A) (F0 m 23 ls1 [])) , ∀ (x3 x4 x5 x6 : Int32) (H1 : Heap) (locs1 : List Loc) (ls1 : Array Slot), gw D A s.heap (wX10_way cI cB cZ cM cJ cK n_p1 a_t a_t_text a_t_corners a_t_streets a_t_ends a_t_time a_t_leaders a_t_home a_t_feet a_t_far a_t_now a_t_isKept a_t_tried a_t_row a_t_who a_t_then a_t_best a_t_seenAs a_t_seenAt a_t_plan a_p1 t_trace t_typed t_at t_start t_sort t_value t_fault t_rowLong t_homes t_bestValue t_seen t_planMany t_streets t_ends t_time t_home t_far p1) H1 locs1 → lv_has ls1 9 [(0, .ref a_t), (1, .ref a_p1), (2, .int x2), (3, .int x3), (4, .int x4), (5, .int x5), (6, .int x6)] → F = fX10_way_b76 N n_p1 t_streets t_ends t_time t_home t_far p1 x2 K9 K23 x3 x4 x5 x6 → W p l e rmX10_way s m [.ref a_t, .ref a_p1, .int x2].toArray below meth c H1 locs1 0 0 (MQ below (gQ F (fun _u : Int32 => some (.int _u)) (fun _u : Int32 => (wX10_way cI cB cZ cM cJ cK n_p1 a_t a_t_text a_t_corners a_t_streets a_t_ends a_t_time a_t_leaders a_t_home a_t_feet a_t_far a_t_now a_t_isKept a_t_tried a_t_row a_t_who a_t_then a_t_best a_t_seenAs a_t_seenAt a_t_plan a_p1 t_trace t_typed t_at t_start t_sort t_value t_fault t_rowLong t_homes t_bestValue t_seen t_planMany t_streets t_ends t_time t_home t_far p1)) D A) [.ref a_t, .ref a_p1, .int x2].toArray s 0 0 A) (F0 m 76 ls1 []) := by
    intro K9 hK9 K23 hK23 x3 x4 x5 x6 H locs ls Wd hl hf
    refine lv_iconst (v := 0) S.1 S.2.1 dX10_way_76 (by decide) ?_
    exact b77 K9 hK9 K23 hK23 x3 x4 x5 x6 (0 : Int32) _ _ _ Wd hl hf
  have b23 : ∀ (K9 : Int32 → Int32 → Int32 → Option (Int32)) (hK9 : ∀ (x3 x4 x5 : Int32) (H1 : Heap) (locs1 : List Loc) (ls1 : Array Slot), gw D A s.heap (wX10_way cI cB cZ cM cJ cK n_p1 a_t a_t_text a_t_corners a_t_streets a_t_ends a_t_time a_t_leaders a_t_home a_t_feet a_t_far a_t_now a_t_isKept a_t_tried a_t_row a_t_who a_t_then a_t_best a_t_seenAs a_t_seenAt a_t_plan a_p1 t_trace t_typed t_at t_start t_sort t_value t_fault t_rowLong t_homes t_bestValue t_seen t_planMany t_streets t_ends t_time t_home t_far p1) H1 locs1 → lv_has ls1 9 [(0, .ref a_t), (1, .ref a_p1), (2, .int x2), (3, .int x3), (4, .int x4), (5, .int x5)] → F = K9 x3 x4 x5 → W p l e rmX10_way s m [.ref a_t, .ref a_p1, .int x2].toArray below meth c H1 locs1 0 0 (MQ below (gQ F (fun _u : Int32 => some (.int _u)) (fun _u : Int32 => (wX10_way cI cB cZ cM cJ cK n_p1 a_t a_t_text a_t_corners a_t_streets a_t_ends a_t_time a_t_leaders a_t_home a_t_feet a_t_far a_t_now a_t_isKept a_t_tried a_t_row a_t_who a_t_then a_t_best a_t_seenAs a_t_seenAt a_t_plan a_p1 t_trace t_typed t_at t_start t_sort t_value t_fault t_rowLong t_homes t_bestValue t_seen t_planMany t_streets t_ends t_time t_home t_far p1)) D A) [.ref a_t, .ref a_p1, .int x2].toArray s 0 0 A) (F0 m 9 ls1 [])) (n : Nat), ∀ (x3 x4 x5 x6 : Int32) (H1 : Heap) (locs1 : List Loc) (ls1 : Array Slot), gw D A s.heap (wX10_way cI cB cZ cM cJ cK n_p1 a_t a_t_text a_t_corners a_t_streets a_t_ends a_t_time a_t_leaders a_t_home a_t_feet a_t_far a_t_now a_t_isKept a_t_tried a_t_row a_t_who a_t_then a_t_best a_t_seenAs a_t_seenAt a_t_plan a_p1 t_trace t_typed t_at t_start t_sort t_value t_fault t_rowLong t_homes t_bestValue t_seen t_planMany t_streets t_ends t_time t_home t_far p1) H1 locs1 → lv_has ls1 9 [(0, .ref a_t), (1, .ref a_p1), (2, .int x2), (3, .int x3), (4, .int x4), (5, .int x5), (6, .int x6)] → F = fX10_way_b23 N n_p1 t_streets t_ends t_time t_home t_far p1 x2 K9 n x3 x4 x5 x6 → W p l e rmX10_way s m [.ref a_t, .ref a_p1, .int x2].toArray below meth c H1 locs1 0 0 (MQ below (gQ F (fun _u : Int32 => some (.int _u)) (fun _u : Int32 => (wX10_way cI cB cZ cM cJ cK n_p1 a_t a_t_text a_t_corners a_t_streets a_t_ends a_t_time a_t_leaders a_t_home a_t_feet a_t_far a_t_now a_t_isKept a_t_tried a_t_row a_t_who a_t_then a_t_best a_t_seenAs a_t_seenAt a_t_plan a_p1 t_trace t_typed t_at t_start t_sort t_value t_fault t_rowLong t_homes t_bestValue t_seen t_planMany t_streets t_ends t_time t_home t_far p1)) D A) [.ref a_t, .ref a_p1, .int x2].toArray s 0 0 A) (F0 m 23 ls1 []) := by
    intro K9 hK9 n
    induction n with
    | zero => intro x3 x4 x5 x6 H locs ls Wd hl hf; exact absurd hf hF
    | succ n ih =>
      intro x3 x4 x5 x6 H locs ls Wd hl hf
      refine lv_iload S.1 S.2.1 dX10_way_23 (lv_at hl 6 rfl) ?_
      refine lv_iconst (v := 2) S.1 S.2.1 dX10_way_25 (by decide) ?_
      refine lv_icmp_ge (tgt := 157) S.1 S.2.1 dX10_way_26 rfl (fun c2 => ?_) (fun c2 => ?_)
      · have hf := g_if hf c2
        refine lv_iinc (v := (x5 + (1 : Int32))) (lv' := [(5, .int (x5 + (1 : Int32))), (0, .ref a_t), (1, .ref a_p1), (2, .int x2), (3, .int x3), (4, .int x4), (6, .int x6)]) S.1 S.2.1 dX10_way_157 hl (k := 5) rfl rfl (by decide) rfl (fun ls hl => ?_)
        refine lv_goto (tgt := 9) S.1 S.2.1 dX10_way_160 rfl ?_
        exact hK9 x3 x4 (x5 + (1 : Int32)) _ _ _ Wd (lv_sub hl [1, 2, 3, 4, 5, 0] rfl) hf
      · have hf := g_ifn hf c2
        refine lv_aload_n S.1 S.2.1 dX10_way_29 rfl (lv_at hl 0 rfl) ?_
        refine g_get (a := a_t) S hK Wd iX10_way_X10 0 rfl rfl 5 rfl rfl kX10_way_2 rfl dX10_way_30 ?_
        refine lv_iconst (v := 2) S.1 S.2.1 dX10_way_33 (by decide) ?_
        refine lv_iload S.1 S.2.1 dX10_way_34 (lv_at hl 5 rfl) ?_
        refine lv_imul S.1 S.2.1 dX10_way_36 ?_
        refine lv_iload S.1 S.2.1 dX10_way_37 (lv_at hl 6 rfl) ?_
        refine lv_iadd S.1 S.2.1 dX10_way_39 ?_
        obtain ⟨h3, hf⟩ := g_gi hF hf
        refine g_iald (a := a_t_ends) S hK Wd 2 0 rfl rfl h3 dX10_way_40 ?_
        refine lv_aload_n S.1 S.2.1 dX10_way_41 rfl (lv_at hl 1 rfl) ?_
        refine lv_iconst (v := 0) S.1 S.2.1 dX10_way_42 (by decide) ?_
        obtain ⟨h4, hf⟩ := g_gi hF hf
        refine g_iald (a := a_p1) S hK Wd 6 0 rfl rfl h4 dX10_way_43 ?_
        refine lv_icmp_ne (tgt := 76) S.1 S.2.1 dX10_way_44 rfl (fun c5 => ?_) (fun c5 => ?_)
        · have hf := g_ifn hf c5
          exact b76 K9 hK9 (fun x3 x4 x5 x6 => fX10_way_b23 N n_p1 t_streets t_ends t_time t_home t_far p1 x2 K9 n x3 x4 x5 x6) ih x3 x4 x5 x6 _ _ _ Wd hl hf
        · have hf := g_if hf c5
          refine lv_aload_n S.1 S.2.1 dX10_way_47 rfl (lv_at hl 1 rfl) ?_
          refine lv_iconst (v := 4) S.1 S.2.1 dX10_way_48 (by decide) ?_
          obtain ⟨h6, hf⟩ := g_gi hF hf
          refine g_iald (a := a_p1) S hK Wd 6 0 rfl rfl h6 dX10_way_49 ?_
          refine lv_iload S.1 S.2.1 dX10_way_50 (lv_at hl 5 rfl) ?_
          refine lv_ishr S.1 S.2.1 dX10_way_52 ?_
          refine lv_iconst (v := 1) S.1 S.2.1 dX10_way_53 (by decide) ?_
          refine lv_iand S.1 S.2.1 dX10_way_54 ?_
          refine lv_if_ne (tgt := 76) S.1 S.2.1 dX10_way_55 rfl (fun c7 => ?_) (fun c7 => ?_)
          · have hf := g_ifn hf c7
            exact b76 K9 hK9 (fun x3 x4 x5 x6 => fX10_way_b23 N n_p1 t_streets t_ends t_time t_home t_far p1 x2 K9 n x3 x4 x5 x6) ih x3 x4 x5 x6 _ _ _ Wd hl hf
          · have hf := g_if hf c7
            refine lv_aload_n S.1 S.2.1 dX10_way_58 rfl (lv_at hl 1 rfl) ?_
            refine lv_iconst (v := 5) S.1 S.2.1 dX10_way_59 (by decide) ?_
            refine lv_iload S.1 S.2.1 dX10_way_60 (lv_at hl 5 rfl) ?_
            refine lv_iadd S.1 S.2.1 dX10_way_62 ?_
            obtain ⟨h8, hf⟩ := g_gi hF hf
            refine g_iald (a := a_p1) S hK Wd 6 0 rfl rfl h8 dX10_way_63 ?_
            refine lv_iload S.1 S.2.1 dX10_way_64 (lv_at hl 6 rfl) ?_
            refine lv_ishr S.1 S.2.1 dX10_way_66 ?_
            refine lv_iconst (v := 1) S.1 S.2.1 dX10_way_67 (by decide) ?_
            refine lv_iand S.1 S.2.1 dX10_way_68 ?_
            refine lv_if_ne (tgt := 76) S.1 S.2.1 dX10_way_69 rfl (fun c9 => ?_) (fun c9 => ?_)
            · have hf := g_ifn hf c9
              exact b76 K9 hK9 (fun x3 x4 x5 x6 => fX10_way_b23 N n_p1 t_streets t_ends t_time t_home t_far p1 x2 K9 n x3 x4 x5 x6) ih x3 x4 x5 x6 _ _ _ Wd hl hf
            · have hf := g_if hf c9
              refine lv_iconst (v := 1) S.1 S.2.1 dX10_way_72 (by decide) ?_
              refine lv_goto (tgt := 77) S.1 S.2.1 dX10_way_73 rfl ?_
              exact b77 K9 hK9 (fun x3 x4 x5 x6 => fX10_way_b23 N n_p1 t_streets t_ends t_time t_home t_far p1 x2 K9 n x3 x4 x5 x6) ih x3 x4 x5 x6 (1 : Int32) _ _ _ Wd hl hf
  have b9 : ∀ (n : Nat), ∀ (x3 x4 x5 : Int32) (H1 : Heap) (locs1 : List Loc) (ls1 : Array Slot), gw D A s.heap (wX10_way cI cB cZ cM cJ cK n_p1 a_t a_t_text a_t_corners a_t_streets a_t_ends a_t_time a_t_leaders a_t_home a_t_feet a_t_far a_t_now a_t_isKept a_t_tried a_t_row a_t_who a_t_then a_t_best a_t_seenAs a_t_seenAt a_t_plan a_p1 t_trace t_typed t_at t_start t_sort t_value t_fault t_rowLong t_homes t_bestValue t_seen t_planMany t_streets t_ends t_time t_home t_far p1) H1 locs1 → lv_has ls1 9 [(0, .ref a_t), (1, .ref a_p1), (2, .int x2), (3, .int x3), (4, .int x4), (5, .int x5)] → F = fX10_way_b9 N n_p1 t_streets t_ends t_time t_home t_far p1 x2  n x3 x4 x5 → W p l e rmX10_way s m [.ref a_t, .ref a_p1, .int x2].toArray below meth c H1 locs1 0 0 (MQ below (gQ F (fun _u : Int32 => some (.int _u)) (fun _u : Int32 => (wX10_way cI cB cZ cM cJ cK n_p1 a_t a_t_text a_t_corners a_t_streets a_t_ends a_t_time a_t_leaders a_t_home a_t_feet a_t_far a_t_now a_t_isKept a_t_tried a_t_row a_t_who a_t_then a_t_best a_t_seenAs a_t_seenAt a_t_plan a_p1 t_trace t_typed t_at t_start t_sort t_value t_fault t_rowLong t_homes t_bestValue t_seen t_planMany t_streets t_ends t_time t_home t_far p1)) D A) [.ref a_t, .ref a_p1, .int x2].toArray s 0 0 A) (F0 m 9 ls1 []) := by
    intro  n
    induction n with
    | zero => intro x3 x4 x5 H locs ls Wd hl hf; exact absurd hf hF
    | succ n ih =>
      intro x3 x4 x5 H locs ls Wd hl hf
      refine lv_iload S.1 S.2.1 dX10_way_9 (lv_at hl 5 rfl) ?_
      refine lv_aload_n S.1 S.2.1 dX10_way_11 rfl (lv_at hl 0 rfl) ?_
      refine g_get (a := a_t) S hK Wd iX10_way_X10 0 rfl rfl 4 rfl rfl kX10_way_1 rfl dX10_way_12 ?_
      refine lv_iconst (v := 0) S.1 S.2.1 dX10_way_15 (by decide) ?_
      refine g_iald (a := a_t_streets) S hK Wd 1 0 rfl rfl (show ¬ (((0 : Int32) < 0) ∨ 2 ≤ Int32.toNatClampNeg (0 : Int32)) from by decide) dX10_way_16 ?_
      refine lv_icmp_ge (tgt := 163) S.1 S.2.1 dX10_way_17 rfl (fun c1 => ?_) (fun c1 => ?_)
      · have hf := g_if hf c1
        refine lv_iload_n S.1 S.2.1 dX10_way_163 rfl (lv_at hl 3 rfl) ?_
        exact g_iret S Wd hr hlk dX10_way_164 x3 hf rfl rfl
      · have hf := g_ifn hf c1
        refine lv_iconst (v := 0) S.1 S.2.1 dX10_way_20 (by decide) ?_
        refine lv_istore (lv' := [(6, .int (0 : Int32)), (0, .ref a_t), (1, .ref a_p1), (2, .int x2), (3, .int x3), (4, .int x4), (5, .int x5)]) S.1 S.2.1 dX10_way_21 hl (by decide) rfl (fun ls hl => ?_)
        exact b23 (fun x3 x4 x5 => fX10_way_b9 N n_p1 t_streets t_ends t_time t_home t_far p1 x2 n x3 x4 x5) ih N x3 x4 x5 (0 : Int32) _ _ _ Wd (lv_sub hl [1, 2, 3, 4, 5, 6, 0] rfl) hf
  refine lv_bipush (v := (-9)) S.1 S.2.1 dX10_way_0 (by decide) ?_
  refine lv_istore_n (lv' := [(3, .int (-9 : Int32)), (0, .ref a_t), (1, .ref a_p1), (2, .int x2)]) S.1 S.2.1 dX10_way_2 rfl hl (by decide) rfl (fun ls hl => ?_)
  refine lv_iconst (v := 0) S.1 S.2.1 dX10_way_3 (by decide) ?_
  refine lv_istore (lv' := [(4, .int (0 : Int32)), (3, .int (-9 : Int32)), (0, .ref a_t), (1, .ref a_p1), (2, .int x2)]) S.1 S.2.1 dX10_way_4 hl (by decide) rfl (fun ls hl => ?_)
  refine lv_iconst (v := 0) S.1 S.2.1 dX10_way_6 (by decide) ?_
  refine lv_istore (lv' := [(5, .int (0 : Int32)), (4, .int (0 : Int32)), (3, .int (-9 : Int32)), (0, .ref a_t), (1, .ref a_p1), (2, .int x2)]) S.1 S.2.1 dX10_way_7 hl (by decide) rfl (fun ls hl => ?_)
  exact b9  N (-9 : Int32) (0 : Int32) (0 : Int32) _ _ _ Wd (lv_sub hl [3, 4, 5, 2, 1, 0] rfl) hf
def wX10_lead (cI cB cZ cM cJ cK : ClassId) (n_p1 a_t a_t_text a_t_corners a_t_streets a_t_ends a_t_time a_t_leaders a_t_home a_t_feet a_t_far a_t_now a_t_isKept a_t_tried a_t_row a_t_who a_t_then a_t_best a_t_seenAs a_t_seenAt a_t_plan a_p1 : Nat) (t_trace : Int64) (t_typed t_at t_start t_sort t_value t_fault t_rowLong t_homes t_bestValue t_seen t_planMany : Int32) (t_streets t_ends t_time t_home t_feet t_far p1 : Nat → Int32) : List va_W := [[(a_t, .inr (10, [.long t_trace, .ref a_t_text, .int t_typed, .ref a_t_corners, .ref a_t_streets, .ref a_t_ends, .ref a_t_time, .ref a_t_leaders, .ref a_t_home, .ref a_t_feet, .int t_at, .int t_start, .int t_sort, .int t_value, .int t_fault, .ref a_t_far, .ref a_t_now, .ref a_t_isKept, .ref a_t_tried, .ref a_t_row, .int t_rowLong, .ref a_t_who, .ref a_t_then, .int t_homes, .ref a_t_best, .int t_bestValue, .ref a_t_seenAs, .ref a_t_seenAt, .int t_seen, .ref a_t_plan, .int t_planMany]))], [(a_t_streets, .inl (cI, 2, .inl t_streets))], [(a_t_ends, .inl (cI, 48, .inl t_ends))], [(a_t_time, .inl (cI, 24, .inl t_time))], [(a_t_home, .inl (cI, 12, .inl t_home))], [(a_t_feet, .inl (cI, 12, .inl t_feet))], [(a_t_far, .inl (cI, 64, .inl t_far))], [(a_p1, .inl (cI, n_p1, .inl p1))]]
def rmX10_lead : Room := { frames := 1, cells := 0, slots := 0, locals := 28 }
theorem kX10_lead_1 : Cond.fieldLink RX10 32 "FeastMarchModel" "feet" "[I" ∈ wsX10_lead := List.mem_of_getElem? (i := 1) rfl
theorem kX10_lead_2 : Cond.fieldLink RX10 20 "FeastMarchModel" "ends" "[I" ∈ wsX10_lead := List.mem_of_getElem? (i := 2) rfl
theorem kX10_lead_3 : Cond.fieldLink RX10 23 "FeastMarchModel" "time" "[I" ∈ wsX10_lead := List.mem_of_getElem? (i := 3) rfl
theorem kX10_lead_4 : Cond.fieldLink RX10 29 "FeastMarchModel" "home" "[I" ∈ wsX10_lead := List.mem_of_getElem? (i := 4) rfl
theorem iX10_lead_X10 : ∀ w ∈ wsX100, w ∈ wsX10_lead := fun _ h => List.mem_cons_of_mem _ (List.mem_append_right _ h)
theorem n_X10_lead : yX10_lead.cls = RX10 ∧ yX10_lead.cls ≠ "java/lang/invoke/MethodHandle" ∧ yX10_lead.cls ≠ "java/lang/invoke/VarHandle" ∧ (parseMethodDescriptor yX10_lead.desc).map (fun d => d.parameters.length) = some 2 := by decide +kernel
set_option maxHeartbeats 4000000 in
set_option maxRecDepth 100000 in
theorem c_X10_lead (l : Launch) (D : va_G) (N : Nat) (cI cB cZ cM cJ cK : ClassId) (n_p1 a_t a_t_text a_t_corners a_t_streets a_t_ends a_t_time a_t_leaders a_t_home a_t_feet a_t_far a_t_now a_t_isKept a_t_tried a_t_row a_t_who a_t_then a_t_best a_t_seenAs a_t_seenAt a_t_plan a_p1 : Nat) (t_trace : Int64) (t_typed t_at t_start t_sort t_value t_fault t_rowLong t_homes t_bestValue t_seen t_planMany : Int32) (t_streets t_ends t_time t_home t_feet t_far p1 : Nat → Int32) (x2 : Int32) : gM l yX10_lead wsX10_lead rmX10_lead D (gT cI cB cZ cM cJ cK) (wX10_lead cI cB cZ cM cJ cK n_p1 a_t a_t_text a_t_corners a_t_streets a_t_ends a_t_time a_t_leaders a_t_home a_t_feet a_t_far a_t_now a_t_isKept a_t_tried a_t_row a_t_who a_t_then a_t_best a_t_seenAs a_t_seenAt a_t_plan a_p1 t_trace t_typed t_at t_start t_sort t_value t_fault t_rowLong t_homes t_bestValue t_seen t_planMany t_streets t_ends t_time t_home t_feet t_far p1) [.ref a_t, .ref a_p1, .int x2] (fX10_lead N n_p1 t_streets t_ends t_time t_home t_feet t_far p1 x2) (fun _u : Int32 × (Nat → Int32) => some (.int _u.1)) (fun _u : Int32 × (Nat → Int32) => (wX10_lead cI cB cZ cM cJ cK n_p1 a_t a_t_text a_t_corners a_t_streets a_t_ends a_t_time a_t_leaders a_t_home a_t_feet a_t_far a_t_now a_t_isKept a_t_tried a_t_row a_t_who a_t_then a_t_best a_t_seenAs a_t_seenAt a_t_plan a_p1 t_trace t_typed t_at t_start t_sort t_value t_fault t_rowLong t_homes t_bestValue t_seen t_planMany t_streets t_ends t_time t_home t_feet t_far _u.2)) := by
  refine g_start (cc := cX10_lead) (maxL := 7) (ret := (some .boolean)) (by decide) rfl (Nat.le_of_ble_eq_true rfl) ?_
  intro F hf hF p e s m below meth c A ls S hK hA Wd hr hlk hnm hl
  have b123 : ∀ (K8 : (Nat → Int32) → Int32 → Int32 → Int32 → Option (Int32 × (Nat → Int32))) (hK8 : ∀ (p1 : Nat → Int32) (x3 x4 x5 : Int32) (H1 : Heap) (locs1 : List Loc) (ls1 : Array Slot), gw D A s.heap (wX10_lead cI cB cZ cM cJ cK n_p1 a_t a_t_text a_t_corners a_t_streets a_t_ends a_t_time a_t_leaders a_t_home a_t_feet a_t_far a_t_now a_t_isKept a_t_tried a_t_row a_t_who a_t_then a_t_best a_t_seenAs a_t_seenAt a_t_plan a_p1 t_trace t_typed t_at t_start t_sort t_value t_fault t_rowLong t_homes t_bestValue t_seen t_planMany t_streets t_ends t_time t_home t_feet t_far p1) H1 locs1 → lv_has ls1 7 [(0, .ref a_t), (1, .ref a_p1), (2, .int x2), (3, .int x3), (4, .int x4), (5, .int x5)] → F = K8 p1 x3 x4 x5 → W p l e rmX10_lead s m [.ref a_t, .ref a_p1, .int x2].toArray below meth c H1 locs1 0 0 (MQ below (gQ F (fun _u : Int32 × (Nat → Int32) => some (.int _u.1)) (fun _u : Int32 × (Nat → Int32) => (wX10_lead cI cB cZ cM cJ cK n_p1 a_t a_t_text a_t_corners a_t_streets a_t_ends a_t_time a_t_leaders a_t_home a_t_feet a_t_far a_t_now a_t_isKept a_t_tried a_t_row a_t_who a_t_then a_t_best a_t_seenAs a_t_seenAt a_t_plan a_p1 t_trace t_typed t_at t_start t_sort t_value t_fault t_rowLong t_homes t_bestValue t_seen t_planMany t_streets t_ends t_time t_home t_feet t_far _u.2)) D A) [.ref a_t, .ref a_p1, .int x2].toArray s 0 0 A) (F0 m 8 ls1 [])) , ∀ (p1 : Nat → Int32) (x3 x5 y0 : Int32) (H1 : Heap) (locs1 : List Loc) (ls1 : Array Slot), gw D A s.heap (wX10_lead cI cB cZ cM cJ cK n_p1 a_t a_t_text a_t_corners a_t_streets a_t_ends a_t_time a_t_leaders a_t_home a_t_feet a_t_far a_t_now a_t_isKept a_t_tried a_t_row a_t_who a_t_then a_t_best a_t_seenAs a_t_seenAt a_t_plan a_p1 t_trace t_typed t_at t_start t_sort t_value t_fault t_rowLong t_homes t_bestValue t_seen t_planMany t_streets t_ends t_time t_home t_feet t_far p1) H1 locs1 → lv_has ls1 7 [(0, .ref a_t), (1, .ref a_p1), (2, .int x2), (3, .int x3), (5, .int x5)] → F = fX10_lead_b123 N n_p1 t_streets t_ends t_time t_home t_feet t_far x2 K8 p1 x3 x5 y0 → W p l e rmX10_lead s m [.ref a_t, .ref a_p1, .int x2].toArray below meth c H1 locs1 0 0 (MQ below (gQ F (fun _u : Int32 × (Nat → Int32) => some (.int _u.1)) (fun _u : Int32 × (Nat → Int32) => (wX10_lead cI cB cZ cM cJ cK n_p1 a_t a_t_text a_t_corners a_t_streets a_t_ends a_t_time a_t_leaders a_t_home a_t_feet a_t_far a_t_now a_t_isKept a_t_tried a_t_row a_t_who a_t_then a_t_best a_t_seenAs a_t_seenAt a_t_plan a_p1 t_trace t_typed t_at t_start t_sort t_value t_fault t_rowLong t_homes t_bestValue t_seen t_planMany t_streets t_ends t_time t_home t_feet t_far _u.2)) D A) [.ref a_t, .ref a_p1, .int x2].toArray s 0 0 A) (F0 m 123 ls1 [.int y0]) := by
    intro K8 hK8 p1 x3 x5 y0 H locs ls Wd hl hf
    refine lv_istore (lv' := [(4, .int y0), (0, .ref a_t), (1, .ref a_p1), (2, .int x2), (3, .int x3), (5, .int x5)]) S.1 S.2.1 dX10_lead_123 hl (by decide) rfl (fun ls hl => ?_)
    refine lv_iinc (v := (x5 + (1 : Int32))) (lv' := [(5, .int (x5 + (1 : Int32))), (4, .int y0), (0, .ref a_t), (1, .ref a_p1), (2, .int x2), (3, .int x3)]) S.1 S.2.1 dX10_lead_125 hl (k := 5) rfl rfl (by decide) rfl (fun ls hl => ?_)
    refine lv_goto (tgt := 8) S.1 S.2.1 dX10_lead_128 rfl ?_
    exact hK8 p1 x3 y0 (x5 + (1 : Int32)) _ _ _ Wd (lv_sub hl [2, 3, 4, 5, 1, 0] rfl) hf
  have b122 : ∀ (K8 : (Nat → Int32) → Int32 → Int32 → Int32 → Option (Int32 × (Nat → Int32))) (hK8 : ∀ (p1 : Nat → Int32) (x3 x4 x5 : Int32) (H1 : Heap) (locs1 : List Loc) (ls1 : Array Slot), gw D A s.heap (wX10_lead cI cB cZ cM cJ cK n_p1 a_t a_t_text a_t_corners a_t_streets a_t_ends a_t_time a_t_leaders a_t_home a_t_feet a_t_far a_t_now a_t_isKept a_t_tried a_t_row a_t_who a_t_then a_t_best a_t_seenAs a_t_seenAt a_t_plan a_p1 t_trace t_typed t_at t_start t_sort t_value t_fault t_rowLong t_homes t_bestValue t_seen t_planMany t_streets t_ends t_time t_home t_feet t_far p1) H1 locs1 → lv_has ls1 7 [(0, .ref a_t), (1, .ref a_p1), (2, .int x2), (3, .int x3), (4, .int x4), (5, .int x5)] → F = K8 p1 x3 x4 x5 → W p l e rmX10_lead s m [.ref a_t, .ref a_p1, .int x2].toArray below meth c H1 locs1 0 0 (MQ below (gQ F (fun _u : Int32 × (Nat → Int32) => some (.int _u.1)) (fun _u : Int32 × (Nat → Int32) => (wX10_lead cI cB cZ cM cJ cK n_p1 a_t a_t_text a_t_corners a_t_streets a_t_ends a_t_time a_t_leaders a_t_home a_t_feet a_t_far a_t_now a_t_isKept a_t_tried a_t_row a_t_who a_t_then a_t_best a_t_seenAs a_t_seenAt a_t_plan a_p1 t_trace t_typed t_at t_start t_sort t_value t_fault t_rowLong t_homes t_bestValue t_seen t_planMany t_streets t_ends t_time t_home t_feet t_far _u.2)) D A) [.ref a_t, .ref a_p1, .int x2].toArray s 0 0 A) (F0 m 8 ls1 [])) , ∀ (p1 : Nat → Int32) (x3 x5 : Int32) (H1 : Heap) (locs1 : List Loc) (ls1 : Array Slot), gw D A s.heap (wX10_lead cI cB cZ cM cJ cK n_p1 a_t a_t_text a_t_corners a_t_streets a_t_ends a_t_time a_t_leaders a_t_home a_t_feet a_t_far a_t_now a_t_isKept a_t_tried a_t_row a_t_who a_t_then a_t_best a_t_seenAs a_t_seenAt a_t_plan a_p1 t_trace t_typed t_at t_start t_sort t_value t_fault t_rowLong t_homes t_bestValue t_seen t_planMany t_streets t_ends t_time t_home t_feet t_far p1) H1 locs1 → lv_has ls1 7 [(0, .ref a_t), (1, .ref a_p1), (2, .int x2), (3, .int x3), (5, .int x5)] → F = fX10_lead_b122 N n_p1 t_streets t_ends t_time t_home t_feet t_far x2 K8 p1 x3 x5 → W p l e rmX10_lead s m [.ref a_t, .ref a_p1, .int x2].toArray below meth c H1 locs1 0 0 (MQ below (gQ F (fun _u : Int32 × (Nat → Int32) => some (.int _u.1)) (fun _u : Int32 × (Nat → Int32) => (wX10_lead cI cB cZ cM cJ cK n_p1 a_t a_t_text a_t_corners a_t_streets a_t_ends a_t_time a_t_leaders a_t_home a_t_feet a_t_far a_t_now a_t_isKept a_t_tried a_t_row a_t_who a_t_then a_t_best a_t_seenAs a_t_seenAt a_t_plan a_p1 t_trace t_typed t_at t_start t_sort t_value t_fault t_rowLong t_homes t_bestValue t_seen t_planMany t_streets t_ends t_time t_home t_feet t_far _u.2)) D A) [.ref a_t, .ref a_p1, .int x2].toArray s 0 0 A) (F0 m 122 ls1 []) := by
    intro K8 hK8 p1 x3 x5 H locs ls Wd hl hf
    refine lv_iconst (v := 0) S.1 S.2.1 dX10_lead_122 (by decide) ?_
    exact b123 K8 hK8 p1 x3 x5 (0 : Int32) _ _ _ Wd hl hf
  have b102 : ∀ (K8 : (Nat → Int32) → Int32 → Int32 → Int32 → Option (Int32 × (Nat → Int32))) (hK8 : ∀ (p1 : Nat → Int32) (x3 x4 x5 : Int32) (H1 : Heap) (locs1 : List Loc) (ls1 : Array Slot), gw D A s.heap (wX10_lead cI cB cZ cM cJ cK n_p1 a_t a_t_text a_t_corners a_t_streets a_t_ends a_t_time a_t_leaders a_t_home a_t_feet a_t_far a_t_now a_t_isKept a_t_tried a_t_row a_t_who a_t_then a_t_best a_t_seenAs a_t_seenAt a_t_plan a_p1 t_trace t_typed t_at t_start t_sort t_value t_fault t_rowLong t_homes t_bestValue t_seen t_planMany t_streets t_ends t_time t_home t_feet t_far p1) H1 locs1 → lv_has ls1 7 [(0, .ref a_t), (1, .ref a_p1), (2, .int x2), (3, .int x3), (4, .int x4), (5, .int x5)] → F = K8 p1 x3 x4 x5 → W p l e rmX10_lead s m [.ref a_t, .ref a_p1, .int x2].toArray below meth c H1 locs1 0 0 (MQ below (gQ F (fun _u : Int32 × (Nat → Int32) => some (.int _u.1)) (fun _u : Int32 × (Nat → Int32) => (wX10_lead cI cB cZ cM cJ cK n_p1 a_t a_t_text a_t_corners a_t_streets a_t_ends a_t_time a_t_leaders a_t_home a_t_feet a_t_far a_t_now a_t_isKept a_t_tried a_t_row a_t_who a_t_then a_t_best a_t_seenAs a_t_seenAt a_t_plan a_p1 t_trace t_typed t_at t_start t_sort t_value t_fault t_rowLong t_homes t_bestValue t_seen t_planMany t_streets t_ends t_time t_home t_feet t_far _u.2)) D A) [.ref a_t, .ref a_p1, .int x2].toArray s 0 0 A) (F0 m 8 ls1 [])) , ∀ (p1 : Nat → Int32) (x3 x5 : Int32) (H1 : Heap) (locs1 : List Loc) (ls1 : Array Slot), gw D A s.heap (wX10_lead cI cB cZ cM cJ cK n_p1 a_t a_t_text a_t_corners a_t_streets a_t_ends a_t_time a_t_leaders a_t_home a_t_feet a_t_far a_t_now a_t_isKept a_t_tried a_t_row a_t_who a_t_then a_t_best a_t_seenAs a_t_seenAt a_t_plan a_p1 t_trace t_typed t_at t_start t_sort t_value t_fault t_rowLong t_homes t_bestValue t_seen t_planMany t_streets t_ends t_time t_home t_feet t_far p1) H1 locs1 → lv_has ls1 7 [(0, .ref a_t), (1, .ref a_p1), (2, .int x2), (3, .int x3), (5, .int x5)] → F = fX10_lead_b102 N n_p1 t_streets t_ends t_time t_home t_feet t_far x2 K8 p1 x3 x5 → W p l e rmX10_lead s m [.ref a_t, .ref a_p1, .int x2].toArray below meth c H1 locs1 0 0 (MQ below (gQ F (fun _u : Int32 × (Nat → Int32) => some (.int _u.1)) (fun _u : Int32 × (Nat → Int32) => (wX10_lead cI cB cZ cM cJ cK n_p1 a_t a_t_text a_t_corners a_t_streets a_t_ends a_t_time a_t_leaders a_t_home a_t_feet a_t_far a_t_now a_t_isKept a_t_tried a_t_row a_t_who a_t_then a_t_best a_t_seenAs a_t_seenAt a_t_plan a_p1 t_trace t_typed t_at t_start t_sort t_value t_fault t_rowLong t_homes t_bestValue t_seen t_planMany t_streets t_ends t_time t_home t_feet t_far _u.2)) D A) [.ref a_t, .ref a_p1, .int x2].toArray s 0 0 A) (F0 m 102 ls1 []) := by
    intro K8 hK8 p1 x3 x5 H locs ls Wd hl hf
    refine lv_iload_n S.1 S.2.1 dX10_lead_102 rfl (lv_at hl 3 rfl) ?_
    refine lv_if_ne (tgt := 122) S.1 S.2.1 dX10_lead_103 rfl (fun c14 => ?_) (fun c14 => ?_)
    · have hf := g_ifn hf c14
      exact b122 K8 hK8 p1 x3 x5 _ _ _ Wd hl hf
    · have hf := g_if hf c14
      refine lv_aload_n S.1 S.2.1 dX10_lead_106 rfl (lv_at hl 1 rfl) ?_
      refine lv_iconst (v := 0) S.1 S.2.1 dX10_lead_107 (by decide) ?_
      obtain ⟨h15, hf⟩ := g_gi hF hf
      refine g_iald (a := a_p1) S hK Wd 7 0 rfl rfl h15 dX10_lead_108 ?_
      refine lv_aload_n S.1 S.2.1 dX10_lead_109 rfl (lv_at hl 0 rfl) ?_
      refine g_get (a := a_t) S hK Wd iX10_lead_X10 0 rfl rfl 8 rfl rfl kX10_lead_4 rfl dX10_lead_110 ?_
      refine lv_iload_n S.1 S.2.1 dX10_lead_113 rfl (lv_at hl 2 rfl) ?_
      obtain ⟨h16, hf⟩ := g_gi hF hf
      refine g_iald (a := a_t_home) S hK Wd 4 0 rfl rfl h16 dX10_lead_114 ?_
      refine lv_icmp_eq (tgt := 122) S.1 S.2.1 dX10_lead_115 rfl (fun c17 => ?_) (fun c17 => ?_)
      · have hf := g_if hf c17
        exact b122 K8 hK8 p1 x3 x5 _ _ _ Wd hl hf
      · have hf := g_ifn hf c17
        refine lv_iconst (v := 1) S.1 S.2.1 dX10_lead_118 (by decide) ?_
        refine lv_goto (tgt := 123) S.1 S.2.1 dX10_lead_119 rfl ?_
        exact b123 K8 hK8 p1 x3 x5 (1 : Int32) _ _ _ Wd hl hf
  have b44 : ∀ (K8 : (Nat → Int32) → Int32 → Int32 → Int32 → Option (Int32 × (Nat → Int32))) (hK8 : ∀ (p1 : Nat → Int32) (x3 x4 x5 : Int32) (H1 : Heap) (locs1 : List Loc) (ls1 : Array Slot), gw D A s.heap (wX10_lead cI cB cZ cM cJ cK n_p1 a_t a_t_text a_t_corners a_t_streets a_t_ends a_t_time a_t_leaders a_t_home a_t_feet a_t_far a_t_now a_t_isKept a_t_tried a_t_row a_t_who a_t_then a_t_best a_t_seenAs a_t_seenAt a_t_plan a_p1 t_trace t_typed t_at t_start t_sort t_value t_fault t_rowLong t_homes t_bestValue t_seen t_planMany t_streets t_ends t_time t_home t_feet t_far p1) H1 locs1 → lv_has ls1 7 [(0, .ref a_t), (1, .ref a_p1), (2, .int x2), (3, .int x3), (4, .int x4), (5, .int x5)] → F = K8 p1 x3 x4 x5 → W p l e rmX10_lead s m [.ref a_t, .ref a_p1, .int x2].toArray below meth c H1 locs1 0 0 (MQ below (gQ F (fun _u : Int32 × (Nat → Int32) => some (.int _u.1)) (fun _u : Int32 × (Nat → Int32) => (wX10_lead cI cB cZ cM cJ cK n_p1 a_t a_t_text a_t_corners a_t_streets a_t_ends a_t_time a_t_leaders a_t_home a_t_feet a_t_far a_t_now a_t_isKept a_t_tried a_t_row a_t_who a_t_then a_t_best a_t_seenAs a_t_seenAt a_t_plan a_p1 t_trace t_typed t_at t_start t_sort t_value t_fault t_rowLong t_homes t_bestValue t_seen t_planMany t_streets t_ends t_time t_home t_feet t_far _u.2)) D A) [.ref a_t, .ref a_p1, .int x2].toArray s 0 0 A) (F0 m 8 ls1 [])) , ∀ (p1 : Nat → Int32) (x5 x6 y0 : Int32) (H1 : Heap) (locs1 : List Loc) (ls1 : Array Slot), gw D A s.heap (wX10_lead cI cB cZ cM cJ cK n_p1 a_t a_t_text a_t_corners a_t_streets a_t_ends a_t_time a_t_leaders a_t_home a_t_feet a_t_far a_t_now a_t_isKept a_t_tried a_t_row a_t_who a_t_then a_t_best a_t_seenAs a_t_seenAt a_t_plan a_p1 t_trace t_typed t_at t_start t_sort t_value t_fault t_rowLong t_homes t_bestValue t_seen t_planMany t_streets t_ends t_time t_home t_feet t_far p1) H1 locs1 → lv_has ls1 7 [(0, .ref a_t), (1, .ref a_p1), (2, .int x2), (5, .int x5), (6, .int x6)] → F = fX10_lead_b44 N n_p1 t_streets t_ends t_time t_home t_feet t_far x2 K8 p1 x5 x6 y0 → W p l e rmX10_lead s m [.ref a_t, .ref a_p1, .int x2].toArray below meth c H1 locs1 0 0 (MQ below (gQ F (fun _u : Int32 × (Nat → Int32) => some (.int _u.1)) (fun _u : Int32 × (Nat → Int32) => (wX10_lead cI cB cZ cM cJ cK n_p1 a_t a_t_text a_t_corners a_t_streets a_t_ends a_t_time a_t_leaders a_t_home a_t_feet a_t_far a_t_now a_t_isKept a_t_tried a_t_row a_t_who a_t_then a_t_best a_t_seenAs a_t_seenAt a_t_plan a_p1 t_trace t_typed t_at t_start t_sort t_value t_fault t_rowLong t_homes t_bestValue t_seen t_planMany t_streets t_ends t_time t_home t_feet t_far _u.2)) D A) [.ref a_t, .ref a_p1, .int x2].toArray s 0 0 A) (F0 m 44 ls1 [.int y0]) := by
    intro K8 hK8 p1 x5 x6 y0 H locs ls Wd hl hf
    refine lv_istore_n (lv' := [(3, .int y0), (0, .ref a_t), (1, .ref a_p1), (2, .int x2), (5, .int x5), (6, .int x6)]) S.1 S.2.1 dX10_lead_44 rfl hl (by decide) rfl (fun ls hl => ?_)
    refine lv_iload_n S.1 S.2.1 dX10_lead_45 rfl (lv_at hl 0 rfl) ?_
    refine lv_if_ne (tgt := 102) S.1 S.2.1 dX10_lead_46 rfl (fun c6 => ?_) (fun c6 => ?_)
    · have hf := g_ifn hf c6
      exact b102 K8 hK8 p1 y0 x5 _ _ _ Wd (lv_sub hl [1, 2, 3, 0, 4] rfl) hf
    · have hf := g_if hf c6
      refine lv_aload_n S.1 S.2.1 dX10_lead_49 rfl (lv_at hl 2 rfl) ?_
      refine lv_iconst (v := 5) S.1 S.2.1 dX10_lead_50 (by decide) ?_
      refine lv_iload S.1 S.2.1 dX10_lead_51 (lv_at hl 5 rfl) ?_
      refine lv_iconst (v := 2) S.1 S.2.1 dX10_lead_53 (by decide) ?_
      refine lv_idiv S.1 S.2.1 dX10_lead_54 (by decide) ?_
      refine lv_iadd S.1 S.2.1 dX10_lead_55 ?_
      refine lv_dup2_11 S.1 S.2.1 dX10_lead_56 rfl rfl ?_
      obtain ⟨h7, hf⟩ := g_gi hF hf
      refine g_iald (a := a_p1) S hK Wd 7 0 rfl rfl h7 dX10_lead_57 ?_
      refine lv_iconst (v := 1) S.1 S.2.1 dX10_lead_58 (by decide) ?_
      refine lv_iload S.1 S.2.1 dX10_lead_59 (lv_at hl 5 rfl) ?_
      refine lv_iconst (v := 2) S.1 S.2.1 dX10_lead_61 (by decide) ?_
      refine lv_irem S.1 S.2.1 dX10_lead_62 (by decide) ?_
      refine lv_ishl S.1 S.2.1 dX10_lead_63 ?_
      refine lv_ior S.1 S.2.1 dX10_lead_64 ?_
      obtain ⟨h8, hf⟩ := g_gi hF hf
      refine g_iast (a := a_p1) (ws' := (wX10_lead cI cB cZ cM cJ cK n_p1 a_t a_t_text a_t_corners a_t_streets a_t_ends a_t_time a_t_leaders a_t_home a_t_feet a_t_far a_t_now a_t_isKept a_t_tried a_t_row a_t_who a_t_then a_t_best a_t_seenAs a_t_seenAt a_t_plan a_p1 t_trace t_typed t_at t_start t_sort t_value t_fault t_rowLong t_homes t_bestValue t_seen t_planMany t_streets t_ends t_time t_home t_feet t_far (upd p1 ((5 : Int32) + (x6 / (2 : Int32))).toNatClampNeg ((p1 ((5 : Int32) + (x6 / (2 : Int32))).toNatClampNeg) ||| ((1 : Int32) <<< ((x6 - x6 / (2 : Int32) * (2 : Int32)) &&& 31)))))) S hK Wd 7 0 rfl rfl h8 dX10_lead_65 rfl (fun H locs Wd => ?_)
      refine lv_aload_n S.1 S.2.1 dX10_lead_66 rfl (lv_at hl 2 rfl) ?_
      refine lv_iconst (v := 0) S.1 S.2.1 dX10_lead_67 (by decide) ?_
      refine lv_aload_n S.1 S.2.1 dX10_lead_68 rfl (lv_at hl 1 rfl) ?_
      refine g_get (a := a_t) S hK Wd iX10_lead_X10 0 rfl rfl 5 rfl rfl kX10_lead_2 rfl dX10_lead_69 ?_
      refine lv_iconst (v := 2) S.1 S.2.1 dX10_lead_72 (by decide) ?_
      refine lv_iload S.1 S.2.1 dX10_lead_73 (lv_at hl 5 rfl) ?_
      refine lv_iconst (v := 2) S.1 S.2.1 dX10_lead_75 (by decide) ?_
      refine lv_idiv S.1 S.2.1 dX10_lead_76 (by decide) ?_
      refine lv_imul S.1 S.2.1 dX10_lead_77 ?_
      refine lv_iconst (v := 1) S.1 S.2.1 dX10_lead_78 (by decide) ?_
      refine lv_iadd S.1 S.2.1 dX10_lead_79 ?_
      refine lv_iload S.1 S.2.1 dX10_lead_80 (lv_at hl 5 rfl) ?_
      refine lv_iconst (v := 2) S.1 S.2.1 dX10_lead_82 (by decide) ?_
      refine lv_irem S.1 S.2.1 dX10_lead_83 (by decide) ?_
      refine lv_isub S.1 S.2.1 dX10_lead_84 ?_
      obtain ⟨h9, hf⟩ := g_gi hF hf
      refine g_iald (a := a_t_ends) S hK Wd 2 0 rfl rfl h9 dX10_lead_85 ?_
      obtain ⟨h10, hf⟩ := g_gi hF hf
      refine g_iast (a := a_p1) (ws' := (wX10_lead cI cB cZ cM cJ cK n_p1 a_t a_t_text a_t_corners a_t_streets a_t_ends a_t_time a_t_leaders a_t_home a_t_feet a_t_far a_t_now a_t_isKept a_t_tried a_t_row a_t_who a_t_then a_t_best a_t_seenAs a_t_seenAt a_t_plan a_p1 t_trace t_typed t_at t_start t_sort t_value t_fault t_rowLong t_homes t_bestValue t_seen t_planMany t_streets t_ends t_time t_home t_feet t_far (upd (upd p1 ((5 : Int32) + (x6 / (2 : Int32))).toNatClampNeg ((p1 ((5 : Int32) + (x6 / (2 : Int32))).toNatClampNeg) ||| ((1 : Int32) <<< ((x6 - x6 / (2 : Int32) * (2 : Int32)) &&& 31)))) (0 : Int32).toNatClampNeg (t_ends ((((2 : Int32) * (x6 / (2 : Int32))) + (1 : Int32)) - (x6 - x6 / (2 : Int32) * (2 : Int32))).toNatClampNeg)))) S hK Wd 7 0 rfl rfl h10 dX10_lead_86 rfl (fun H locs Wd => ?_)
      refine lv_aload_n S.1 S.2.1 dX10_lead_87 rfl (lv_at hl 2 rfl) ?_
      refine lv_iconst (v := 1) S.1 S.2.1 dX10_lead_88 (by decide) ?_
      refine lv_dup2_11 S.1 S.2.1 dX10_lead_89 rfl rfl ?_
      obtain ⟨h11, hf⟩ := g_gi hF hf
      refine g_iald (a := a_p1) S hK Wd 7 0 rfl rfl h11 dX10_lead_90 ?_
      refine lv_aload_n S.1 S.2.1 dX10_lead_91 rfl (lv_at hl 1 rfl) ?_
      refine g_get (a := a_t) S hK Wd iX10_lead_X10 0 rfl rfl 6 rfl rfl kX10_lead_3 rfl dX10_lead_92 ?_
      refine lv_iload S.1 S.2.1 dX10_lead_95 (lv_at hl 5 rfl) ?_
      refine lv_iconst (v := 2) S.1 S.2.1 dX10_lead_97 (by decide) ?_
      refine lv_idiv S.1 S.2.1 dX10_lead_98 (by decide) ?_
      obtain ⟨h12, hf⟩ := g_gi hF hf
      refine g_iald (a := a_t_time) S hK Wd 3 0 rfl rfl h12 dX10_lead_99 ?_
      refine lv_iadd S.1 S.2.1 dX10_lead_100 ?_
      obtain ⟨h13, hf⟩ := g_gi hF hf
      refine g_iast (a := a_p1) (ws' := (wX10_lead cI cB cZ cM cJ cK n_p1 a_t a_t_text a_t_corners a_t_streets a_t_ends a_t_time a_t_leaders a_t_home a_t_feet a_t_far a_t_now a_t_isKept a_t_tried a_t_row a_t_who a_t_then a_t_best a_t_seenAs a_t_seenAt a_t_plan a_p1 t_trace t_typed t_at t_start t_sort t_value t_fault t_rowLong t_homes t_bestValue t_seen t_planMany t_streets t_ends t_time t_home t_feet t_far (upd (upd (upd p1 ((5 : Int32) + (x6 / (2 : Int32))).toNatClampNeg ((p1 ((5 : Int32) + (x6 / (2 : Int32))).toNatClampNeg) ||| ((1 : Int32) <<< ((x6 - x6 / (2 : Int32) * (2 : Int32)) &&& 31)))) (0 : Int32).toNatClampNeg (t_ends ((((2 : Int32) * (x6 / (2 : Int32))) + (1 : Int32)) - (x6 - x6 / (2 : Int32) * (2 : Int32))).toNatClampNeg)) (1 : Int32).toNatClampNeg (((upd (upd p1 ((5 : Int32) + (x6 / (2 : Int32))).toNatClampNeg ((p1 ((5 : Int32) + (x6 / (2 : Int32))).toNatClampNeg) ||| ((1 : Int32) <<< ((x6 - x6 / (2 : Int32) * (2 : Int32)) &&& 31)))) (0 : Int32).toNatClampNeg (t_ends ((((2 : Int32) * (x6 / (2 : Int32))) + (1 : Int32)) - (x6 - x6 / (2 : Int32) * (2 : Int32))).toNatClampNeg)) (1 : Int32).toNatClampNeg) + (t_time (x6 / (2 : Int32)).toNatClampNeg))))) S hK Wd 7 0 rfl rfl h13 dX10_lead_101 rfl (fun H locs Wd => ?_)
      exact b102 K8 hK8 (upd (upd (upd p1 ((5 : Int32) + (x6 / (2 : Int32))).toNatClampNeg ((p1 ((5 : Int32) + (x6 / (2 : Int32))).toNatClampNeg) ||| ((1 : Int32) <<< ((x6 - x6 / (2 : Int32) * (2 : Int32)) &&& 31)))) (0 : Int32).toNatClampNeg (t_ends ((((2 : Int32) * (x6 / (2 : Int32))) + (1 : Int32)) - (x6 - x6 / (2 : Int32) * (2 : Int32))).toNatClampNeg)) (1 : Int32).toNatClampNeg (((upd (upd p1 ((5 : Int32) + (x6 / (2 : Int32))).toNatClampNeg ((p1 ((5 : Int32) + (x6 / (2 : Int32))).toNatClampNeg) ||| ((1 : Int32) <<< ((x6 - x6 / (2 : Int32) * (2 : Int32)) &&& 31)))) (0 : Int32).toNatClampNeg (t_ends ((((2 : Int32) * (x6 / (2 : Int32))) + (1 : Int32)) - (x6 - x6 / (2 : Int32) * (2 : Int32))).toNatClampNeg)) (1 : Int32).toNatClampNeg) + (t_time (x6 / (2 : Int32)).toNatClampNeg))) y0 x5 _ _ _ Wd (lv_sub hl [1, 2, 3, 0, 4] rfl) hf
  have b144 : ∀ (p1 : Nat → Int32) (x3 y0 y1 y2 : Int32) (H1 : Heap) (locs1 : List Loc) (ls1 : Array Slot), gw D A s.heap (wX10_lead cI cB cZ cM cJ cK n_p1 a_t a_t_text a_t_corners a_t_streets a_t_ends a_t_time a_t_leaders a_t_home a_t_feet a_t_far a_t_now a_t_isKept a_t_tried a_t_row a_t_who a_t_then a_t_best a_t_seenAs a_t_seenAt a_t_plan a_p1 t_trace t_typed t_at t_start t_sort t_value t_fault t_rowLong t_homes t_bestValue t_seen t_planMany t_streets t_ends t_time t_home t_feet t_far p1) H1 locs1 → lv_has ls1 7 [(1, .ref a_p1), (2, .int x2), (3, .int x3)] → F = fX10_lead_b144 N n_p1 t_streets t_ends t_time t_home t_feet t_far x2  p1 x3 y0 y1 y2 → W p l e rmX10_lead s m [.ref a_t, .ref a_p1, .int x2].toArray below meth c H1 locs1 0 0 (MQ below (gQ F (fun _u : Int32 × (Nat → Int32) => some (.int _u.1)) (fun _u : Int32 × (Nat → Int32) => (wX10_lead cI cB cZ cM cJ cK n_p1 a_t a_t_text a_t_corners a_t_streets a_t_ends a_t_time a_t_leaders a_t_home a_t_feet a_t_far a_t_now a_t_isKept a_t_tried a_t_row a_t_who a_t_then a_t_best a_t_seenAs a_t_seenAt a_t_plan a_p1 t_trace t_typed t_at t_start t_sort t_value t_fault t_rowLong t_homes t_bestValue t_seen t_planMany t_streets t_ends t_time t_home t_feet t_far _u.2)) D A) [.ref a_t, .ref a_p1, .int x2].toArray s 0 0 A) (F0 m 144 ls1 [.int y0, .int y1, .int y2, .ref a_p1]) := by
    intro  p1 x3 y0 y1 y2 H locs ls Wd hl hf
    refine lv_iadd S.1 S.2.1 dX10_lead_144 ?_
    obtain ⟨h20, hf⟩ := g_gi hF hf
    refine g_iast (a := a_p1) (ws' := (wX10_lead cI cB cZ cM cJ cK n_p1 a_t a_t_text a_t_corners a_t_streets a_t_ends a_t_time a_t_leaders a_t_home a_t_feet a_t_far a_t_now a_t_isKept a_t_tried a_t_row a_t_who a_t_then a_t_best a_t_seenAs a_t_seenAt a_t_plan a_p1 t_trace t_typed t_at t_start t_sort t_value t_fault t_rowLong t_homes t_bestValue t_seen t_planMany t_streets t_ends t_time t_home t_feet t_far (upd p1 y2.toNatClampNeg (y1 + y0)))) S hK Wd 7 0 rfl rfl h20 dX10_lead_145 rfl (fun H locs Wd => ?_)
    refine lv_aload_n S.1 S.2.1 dX10_lead_146 rfl (lv_at hl 0 rfl) ?_
    refine lv_iconst (v := 3) S.1 S.2.1 dX10_lead_147 (by decide) ?_
    refine lv_dup2_11 S.1 S.2.1 dX10_lead_148 rfl rfl ?_
    obtain ⟨h21, hf⟩ := g_gi hF hf
    refine g_iald (a := a_p1) S hK Wd 7 0 rfl rfl h21 dX10_lead_149 ?_
    refine lv_iconst (v := 1) S.1 S.2.1 dX10_lead_150 (by decide) ?_
    refine lv_iload_n S.1 S.2.1 dX10_lead_151 rfl (lv_at hl 1 rfl) ?_
    refine lv_ishl S.1 S.2.1 dX10_lead_152 ?_
    refine lv_ior S.1 S.2.1 dX10_lead_153 ?_
    obtain ⟨h22, hf⟩ := g_gi hF hf
    refine g_iast (a := a_p1) (ws' := (wX10_lead cI cB cZ cM cJ cK n_p1 a_t a_t_text a_t_corners a_t_streets a_t_ends a_t_time a_t_leaders a_t_home a_t_feet a_t_far a_t_now a_t_isKept a_t_tried a_t_row a_t_who a_t_then a_t_best a_t_seenAs a_t_seenAt a_t_plan a_p1 t_trace t_typed t_at t_start t_sort t_value t_fault t_rowLong t_homes t_bestValue t_seen t_planMany t_streets t_ends t_time t_home t_feet t_far (upd (upd p1 y2.toNatClampNeg (y1 + y0)) (3 : Int32).toNatClampNeg (((upd p1 y2.toNatClampNeg (y1 + y0)) (3 : Int32).toNatClampNeg) ||| ((1 : Int32) <<< (x2 &&& 31)))))) S hK Wd 7 0 rfl rfl h22 dX10_lead_154 rfl (fun H locs Wd => ?_)
    refine lv_iload_n S.1 S.2.1 dX10_lead_155 rfl (lv_at hl 2 rfl) ?_
    obtain ⟨h23, hf⟩ := g_gc hF hf
    exact g_zret S Wd hr hlk (congrArg Value.int h23) dX10_lead_156 (x3, (upd (upd p1 y2.toNatClampNeg (y1 + y0)) (3 : Int32).toNatClampNeg (((upd p1 y2.toNatClampNeg (y1 + y0)) (3 : Int32).toNatClampNeg) ||| ((1 : Int32) <<< (x2 &&& 31))))) hf rfl rfl
  have b131 : ∀ (p1 : Nat → Int32) (x3 : Int32) (H1 : Heap) (locs1 : List Loc) (ls1 : Array Slot), gw D A s.heap (wX10_lead cI cB cZ cM cJ cK n_p1 a_t a_t_text a_t_corners a_t_streets a_t_ends a_t_time a_t_leaders a_t_home a_t_feet a_t_far a_t_now a_t_isKept a_t_tried a_t_row a_t_who a_t_then a_t_best a_t_seenAs a_t_seenAt a_t_plan a_p1 t_trace t_typed t_at t_start t_sort t_value t_fault t_rowLong t_homes t_bestValue t_seen t_planMany t_streets t_ends t_time t_home t_feet t_far p1) H1 locs1 → lv_has ls1 7 [(1, .ref a_p1), (2, .int x2), (3, .int x3)] → F = fX10_lead_b131 N n_p1 t_streets t_ends t_time t_home t_feet t_far x2  p1 x3 → W p l e rmX10_lead s m [.ref a_t, .ref a_p1, .int x2].toArray below meth c H1 locs1 0 0 (MQ below (gQ F (fun _u : Int32 × (Nat → Int32) => some (.int _u.1)) (fun _u : Int32 × (Nat → Int32) => (wX10_lead cI cB cZ cM cJ cK n_p1 a_t a_t_text a_t_corners a_t_streets a_t_ends a_t_time a_t_leaders a_t_home a_t_feet a_t_far a_t_now a_t_isKept a_t_tried a_t_row a_t_who a_t_then a_t_best a_t_seenAs a_t_seenAt a_t_plan a_p1 t_trace t_typed t_at t_start t_sort t_value t_fault t_rowLong t_homes t_bestValue t_seen t_planMany t_streets t_ends t_time t_home t_feet t_far _u.2)) D A) [.ref a_t, .ref a_p1, .int x2].toArray s 0 0 A) (F0 m 131 ls1 []) := by
    intro  p1 x3 H locs ls Wd hl hf
    refine lv_aload_n S.1 S.2.1 dX10_lead_131 rfl (lv_at hl 0 rfl) ?_
    refine lv_iconst (v := 2) S.1 S.2.1 dX10_lead_132 (by decide) ?_
    refine lv_dup2_11 S.1 S.2.1 dX10_lead_133 rfl rfl ?_
    obtain ⟨h18, hf⟩ := g_gi hF hf
    refine g_iald (a := a_p1) S hK Wd 7 0 rfl rfl h18 dX10_lead_134 ?_
    refine lv_iload_n S.1 S.2.1 dX10_lead_135 rfl (lv_at hl 2 rfl) ?_
    refine lv_if_eq (tgt := 143) S.1 S.2.1 dX10_lead_136 rfl (fun c19 => ?_) (fun c19 => ?_)
    · have hf := g_if hf c19
      refine lv_iconst (v := 0) S.1 S.2.1 dX10_lead_143 (by decide) ?_
      exact b144  p1 x3 (0 : Int32) (p1 (2 : Int32).toNatClampNeg) (2 : Int32) _ _ _ Wd hl hf
    · have hf := g_ifn hf c19
      refine lv_iconst (v := 1) S.1 S.2.1 dX10_lead_139 (by decide) ?_
      refine lv_goto (tgt := 144) S.1 S.2.1 dX10_lead_140 rfl ?_
      exact b144  p1 x3 (1 : Int32) (p1 (2 : Int32).toNatClampNeg) (2 : Int32) _ _ _ Wd hl hf
  have b8 : ∀ (n : Nat), ∀ (p1 : Nat → Int32) (x3 x4 x5 : Int32) (H1 : Heap) (locs1 : List Loc) (ls1 : Array Slot), gw D A s.heap (wX10_lead cI cB cZ cM cJ cK n_p1 a_t a_t_text a_t_corners a_t_streets a_t_ends a_t_time a_t_leaders a_t_home a_t_feet a_t_far a_t_now a_t_isKept a_t_tried a_t_row a_t_who a_t_then a_t_best a_t_seenAs a_t_seenAt a_t_plan a_p1 t_trace t_typed t_at t_start t_sort t_value t_fault t_rowLong t_homes t_bestValue t_seen t_planMany t_streets t_ends t_time t_home t_feet t_far p1) H1 locs1 → lv_has ls1 7 [(0, .ref a_t), (1, .ref a_p1), (2, .int x2), (3, .int x3), (4, .int x4), (5, .int x5)] → F = fX10_lead_b8 N n_p1 t_streets t_ends t_time t_home t_feet t_far x2  n p1 x3 x4 x5 → W p l e rmX10_lead s m [.ref a_t, .ref a_p1, .int x2].toArray below meth c H1 locs1 0 0 (MQ below (gQ F (fun _u : Int32 × (Nat → Int32) => some (.int _u.1)) (fun _u : Int32 × (Nat → Int32) => (wX10_lead cI cB cZ cM cJ cK n_p1 a_t a_t_text a_t_corners a_t_streets a_t_ends a_t_time a_t_leaders a_t_home a_t_feet a_t_far a_t_now a_t_isKept a_t_tried a_t_row a_t_who a_t_then a_t_best a_t_seenAs a_t_seenAt a_t_plan a_p1 t_trace t_typed t_at t_start t_sort t_value t_fault t_rowLong t_homes t_bestValue t_seen t_planMany t_streets t_ends t_time t_home t_feet t_far _u.2)) D A) [.ref a_t, .ref a_p1, .int x2].toArray s 0 0 A) (F0 m 8 ls1 []) := by
    intro  n
    induction n with
    | zero => intro p1 x3 x4 x5 H locs ls Wd hl hf; exact absurd hf hF
    | succ n ih =>
      intro p1 x3 x4 x5 H locs ls Wd hl hf
      refine lv_iload S.1 S.2.1 dX10_lead_8 (lv_at hl 5 rfl) ?_
      refine lv_aload_n S.1 S.2.1 dX10_lead_10 rfl (lv_at hl 0 rfl) ?_
      refine g_get (a := a_t) S hK Wd iX10_lead_X10 0 rfl rfl 9 rfl rfl kX10_lead_1 rfl dX10_lead_11 ?_
      refine lv_iload_n S.1 S.2.1 dX10_lead_14 rfl (lv_at hl 2 rfl) ?_
      obtain ⟨h1, hf⟩ := g_gi hF hf
      refine g_iald (a := a_t_feet) S hK Wd 5 0 rfl rfl h1 dX10_lead_15 ?_
      refine lv_icmp_ge (tgt := 131) S.1 S.2.1 dX10_lead_16 rfl (fun c2 => ?_) (fun c2 => ?_)
      · have hf := g_if hf c2
        exact b131  p1 x3 _ _ _ Wd (lv_sub hl [1, 2, 3] rfl) hf
      · have hf := g_ifn hf c2
        refine lv_iload S.1 S.2.1 dX10_lead_19 (lv_at hl 4 rfl) ?_
        refine lv_if_eq (tgt := 131) S.1 S.2.1 dX10_lead_21 rfl (fun c3 => ?_) (fun c3 => ?_)
        · have hf := g_if hf c3
          exact b131  p1 x3 _ _ _ Wd (lv_sub hl [1, 2, 3] rfl) hf
        · have hf := g_ifn hf c3
          refine lv_aload_n S.1 S.2.1 dX10_lead_24 rfl (lv_at hl 0 rfl) ?_
          refine lv_aload_n S.1 S.2.1 dX10_lead_25 rfl (lv_at hl 1 rfl) ?_
          refine lv_iload_n S.1 S.2.1 dX10_lead_26 rfl (lv_at hl 2 rfl) ?_
          obtain ⟨u4, hu4, hf⟩ := g_bind hF hf
          refine g_callV (ws' := (wX10_lead cI cB cZ cM cJ cK n_p1 a_t a_t_text a_t_corners a_t_streets a_t_ends a_t_time a_t_leaders a_t_home a_t_feet a_t_far a_t_now a_t_isKept a_t_tried a_t_row a_t_who a_t_then a_t_best a_t_seenAs a_t_seenAt a_t_plan a_p1 t_trace t_typed t_at t_start t_sort t_value t_fault t_rowLong t_homes t_bestValue t_seen t_planMany t_streets t_ends t_time t_home t_feet t_far p1)) (As := [.ref a_p1, .int x2]) (rest := []) (st1 := [.int u4]) S hK hA Wd (c_X10_way l D N cI cB cZ cM cJ cK n_p1 a_t a_t_text a_t_corners a_t_streets a_t_ends a_t_time a_t_leaders a_t_home a_t_feet a_t_far a_t_now a_t_isKept a_t_tried a_t_row a_t_who a_t_then a_t_best a_t_seenAs a_t_seenAt a_t_plan a_p1 t_trace t_typed t_at t_start t_sort t_value t_fault t_rowLong t_homes t_bestValue t_seen t_planMany t_streets t_ends t_time t_home t_far p1 x2) (cwV 2 S.2.2.2.2 gX10_lead_X10_way rfl rfl rfl n_X10_way ⟨Nat.le_of_ble_eq_true rfl, Nat.le_of_ble_eq_true rfl⟩) hu4 [0, 1, 2, 3, 4, 6, 7] rfl rfl 0 10 rfl rfl rfl rfl rfl rfl rfl hl.1 rfl (Nat.le_of_ble_eq_true rfl) dX10_lead_27 ⟨Nat.zero_le _, Nat.zero_le _⟩ (fun H locs Wd => ?_)
          refine lv_istore (lv' := [(6, .int u4), (0, .ref a_t), (1, .ref a_p1), (2, .int x2), (3, .int x3), (4, .int x4), (5, .int x5)]) S.1 S.2.1 dX10_lead_30 hl (by decide) rfl (fun ls hl => ?_)
          refine lv_iload S.1 S.2.1 dX10_lead_32 (lv_at hl 0 rfl) ?_
          refine lv_bipush (v := (-9)) S.1 S.2.1 dX10_lead_34 (by decide) ?_
          refine lv_icmp_ne (tgt := 43) S.1 S.2.1 dX10_lead_36 rfl (fun c5 => ?_) (fun c5 => ?_)
          · have hf := g_ifn hf c5
            refine lv_iconst (v := 0) S.1 S.2.1 dX10_lead_43 (by decide) ?_
            exact b44 (fun p1 x3 x4 x5 => fX10_lead_b8 N n_p1 t_streets t_ends t_time t_home t_feet t_far x2 n p1 x3 x4 x5) ih p1 x5 u4 (0 : Int32) _ _ _ Wd (lv_sub hl [1, 2, 3, 6, 0] rfl) hf
          · have hf := g_if hf c5
            refine lv_iconst (v := 1) S.1 S.2.1 dX10_lead_39 (by decide) ?_
            refine lv_goto (tgt := 44) S.1 S.2.1 dX10_lead_40 rfl ?_
            exact b44 (fun p1 x3 x4 x5 => fX10_lead_b8 N n_p1 t_streets t_ends t_time t_home t_feet t_far x2 n p1 x3 x4 x5) ih p1 x5 u4 (1 : Int32) _ _ _ Wd (lv_sub hl [1, 2, 3, 6, 0] rfl) hf
  refine lv_iconst (v := 0) S.1 S.2.1 dX10_lead_0 (by decide) ?_
  refine lv_istore_n (lv' := [(3, .int (0 : Int32)), (0, .ref a_t), (1, .ref a_p1), (2, .int x2)]) S.1 S.2.1 dX10_lead_1 rfl hl (by decide) rfl (fun ls hl => ?_)
  refine lv_iconst (v := 1) S.1 S.2.1 dX10_lead_2 (by decide) ?_
  refine lv_istore (lv' := [(4, .int (1 : Int32)), (3, .int (0 : Int32)), (0, .ref a_t), (1, .ref a_p1), (2, .int x2)]) S.1 S.2.1 dX10_lead_3 hl (by decide) rfl (fun ls hl => ?_)
  refine lv_iconst (v := 0) S.1 S.2.1 dX10_lead_5 (by decide) ?_
  refine lv_istore (lv' := [(5, .int (0 : Int32)), (4, .int (1 : Int32)), (3, .int (0 : Int32)), (0, .ref a_t), (1, .ref a_p1), (2, .int x2)]) S.1 S.2.1 dX10_lead_6 hl (by decide) rfl (fun ls hl => ?_)
  exact b8  N p1 (0 : Int32) (1 : Int32) (0 : Int32) _ _ _ Wd (lv_sub hl [3, 4, 5, 2, 1, 0] rfl) hf
def wX10_walked (cI cB cZ cM cJ cK : ClassId) (n_p1 a_t a_t_text a_t_corners a_t_streets a_t_ends a_t_time a_t_leaders a_t_home a_t_feet a_t_far a_t_now a_t_isKept a_t_tried a_t_row a_t_who a_t_then a_t_best a_t_seenAs a_t_seenAt a_t_plan a_p1 : Nat) (t_trace : Int64) (t_typed t_at t_start t_sort t_value t_fault t_rowLong t_homes t_bestValue t_seen t_planMany : Int32) (t_streets p1 : Nat → Int32) : List va_W := [[(a_t, .inr (10, [.long t_trace, .ref a_t_text, .int t_typed, .ref a_t_corners, .ref a_t_streets, .ref a_t_ends, .ref a_t_time, .ref a_t_leaders, .ref a_t_home, .ref a_t_feet, .int t_at, .int t_start, .int t_sort, .int t_value, .int t_fault, .ref a_t_far, .ref a_t_now, .ref a_t_isKept, .ref a_t_tried, .ref a_t_row, .int t_rowLong, .ref a_t_who, .ref a_t_then, .int t_homes, .ref a_t_best, .int t_bestValue, .ref a_t_seenAs, .ref a_t_seenAt, .int t_seen, .ref a_t_plan, .int t_planMany]))], [(a_t_streets, .inl (cI, 2, .inl t_streets))], [(a_p1, .inl (cI, n_p1, .inl p1))]]
def rmX10_walked : Room := { frames := 0, cells := 0, slots := 0, locals := 0 }
theorem kX10_walked_1 : Cond.fieldLink RX10 17 "FeastMarchModel" "streets" "[I" ∈ wsX10_walked := List.mem_of_getElem? (i := 1) rfl
theorem iX10_walked_X10 : ∀ w ∈ wsX100, w ∈ wsX10_walked := fun _ h => List.mem_cons_of_mem _ (List.mem_append_right _ h)
theorem n_X10_walked : yX10_walked.cls = RX10 ∧ yX10_walked.cls ≠ "java/lang/invoke/MethodHandle" ∧ yX10_walked.cls ≠ "java/lang/invoke/VarHandle" ∧ (parseMethodDescriptor yX10_walked.desc).map (fun d => d.parameters.length) = some 1 := by decide +kernel
set_option maxHeartbeats 4000000 in
set_option maxRecDepth 100000 in
theorem c_X10_walked (l : Launch) (D : va_G) (N : Nat) (cI cB cZ cM cJ cK : ClassId) (n_p1 a_t a_t_text a_t_corners a_t_streets a_t_ends a_t_time a_t_leaders a_t_home a_t_feet a_t_far a_t_now a_t_isKept a_t_tried a_t_row a_t_who a_t_then a_t_best a_t_seenAs a_t_seenAt a_t_plan a_p1 : Nat) (t_trace : Int64) (t_typed t_at t_start t_sort t_value t_fault t_rowLong t_homes t_bestValue t_seen t_planMany : Int32) (t_streets p1 : Nat → Int32) : gM l yX10_walked wsX10_walked rmX10_walked D (gT cI cB cZ cM cJ cK) (wX10_walked cI cB cZ cM cJ cK n_p1 a_t a_t_text a_t_corners a_t_streets a_t_ends a_t_time a_t_leaders a_t_home a_t_feet a_t_far a_t_now a_t_isKept a_t_tried a_t_row a_t_who a_t_then a_t_best a_t_seenAs a_t_seenAt a_t_plan a_p1 t_trace t_typed t_at t_start t_sort t_value t_fault t_rowLong t_homes t_bestValue t_seen t_planMany t_streets p1) [.ref a_t, .ref a_p1] (fX10_walked N n_p1 t_streets p1) (fun _u : Int32 => some (.int _u)) (fun _u : Int32 => (wX10_walked cI cB cZ cM cJ cK n_p1 a_t a_t_text a_t_corners a_t_streets a_t_ends a_t_time a_t_leaders a_t_home a_t_feet a_t_far a_t_now a_t_isKept a_t_tried a_t_row a_t_who a_t_then a_t_best a_t_seenAs a_t_seenAt a_t_plan a_p1 t_trace t_typed t_at t_start t_sort t_value t_fault t_rowLong t_homes t_bestValue t_seen t_planMany t_streets p1)) := by
  refine g_start (cc := cX10_walked) (maxL := 4) (ret := (some .int)) (by decide) rfl (Nat.le_of_ble_eq_true rfl) ?_
  intro F hf hF p e s m below meth c A ls S hK hA Wd hr hlk hnm hl
  have b30 : ∀ (K4 : Int32 → Int32 → Option (Int32)) (hK4 : ∀ (x2 x3 : Int32) (H1 : Heap) (locs1 : List Loc) (ls1 : Array Slot), gw D A s.heap (wX10_walked cI cB cZ cM cJ cK n_p1 a_t a_t_text a_t_corners a_t_streets a_t_ends a_t_time a_t_leaders a_t_home a_t_feet a_t_far a_t_now a_t_isKept a_t_tried a_t_row a_t_who a_t_then a_t_best a_t_seenAs a_t_seenAt a_t_plan a_p1 t_trace t_typed t_at t_start t_sort t_value t_fault t_rowLong t_homes t_bestValue t_seen t_planMany t_streets p1) H1 locs1 → lv_has ls1 4 [(0, .ref a_t), (1, .ref a_p1), (2, .int x2), (3, .int x3)] → F = K4 x2 x3 → W p l e rmX10_walked s m [.ref a_t, .ref a_p1].toArray below meth c H1 locs1 0 0 (MQ below (gQ F (fun _u : Int32 => some (.int _u)) (fun _u : Int32 => (wX10_walked cI cB cZ cM cJ cK n_p1 a_t a_t_text a_t_corners a_t_streets a_t_ends a_t_time a_t_leaders a_t_home a_t_feet a_t_far a_t_now a_t_isKept a_t_tried a_t_row a_t_who a_t_then a_t_best a_t_seenAs a_t_seenAt a_t_plan a_p1 t_trace t_typed t_at t_start t_sort t_value t_fault t_rowLong t_homes t_bestValue t_seen t_planMany t_streets p1)) D A) [.ref a_t, .ref a_p1].toArray s 0 0 A) (F0 m 4 ls1 [])) , ∀ (x3 y0 y1 : Int32) (H1 : Heap) (locs1 : List Loc) (ls1 : Array Slot), gw D A s.heap (wX10_walked cI cB cZ cM cJ cK n_p1 a_t a_t_text a_t_corners a_t_streets a_t_ends a_t_time a_t_leaders a_t_home a_t_feet a_t_far a_t_now a_t_isKept a_t_tried a_t_row a_t_who a_t_then a_t_best a_t_seenAs a_t_seenAt a_t_plan a_p1 t_trace t_typed t_at t_start t_sort t_value t_fault t_rowLong t_homes t_bestValue t_seen t_planMany t_streets p1) H1 locs1 → lv_has ls1 4 [(0, .ref a_t), (1, .ref a_p1), (3, .int x3)] → F = fX10_walked_b30 N n_p1 t_streets p1 K4 x3 y0 y1 → W p l e rmX10_walked s m [.ref a_t, .ref a_p1].toArray below meth c H1 locs1 0 0 (MQ below (gQ F (fun _u : Int32 => some (.int _u)) (fun _u : Int32 => (wX10_walked cI cB cZ cM cJ cK n_p1 a_t a_t_text a_t_corners a_t_streets a_t_ends a_t_time a_t_leaders a_t_home a_t_feet a_t_far a_t_now a_t_isKept a_t_tried a_t_row a_t_who a_t_then a_t_best a_t_seenAs a_t_seenAt a_t_plan a_p1 t_trace t_typed t_at t_start t_sort t_value t_fault t_rowLong t_homes t_bestValue t_seen t_planMany t_streets p1)) D A) [.ref a_t, .ref a_p1].toArray s 0 0 A) (F0 m 30 ls1 [.int y0, .int y1]) := by
    intro K4 hK4 x3 y0 y1 H locs ls Wd hl hf
    refine lv_ior S.1 S.2.1 dX10_walked_30 ?_
    refine lv_istore_n (lv' := [(2, .int (y1 ||| y0)), (0, .ref a_t), (1, .ref a_p1), (3, .int x3)]) S.1 S.2.1 dX10_walked_31 rfl hl (by decide) rfl (fun ls hl => ?_)
    refine lv_iinc (v := (x3 + (1 : Int32))) (lv' := [(3, .int (x3 + (1 : Int32))), (2, .int (y1 ||| y0)), (0, .ref a_t), (1, .ref a_p1)]) S.1 S.2.1 dX10_walked_32 hl (k := 3) rfl rfl (by decide) rfl (fun ls hl => ?_)
    refine lv_goto (tgt := 4) S.1 S.2.1 dX10_walked_35 rfl ?_
    exact hK4 (y1 ||| y0) (x3 + (1 : Int32)) _ _ _ Wd (lv_sub hl [2, 3, 1, 0] rfl) hf
  have b4 : ∀ (n : Nat), ∀ (x2 x3 : Int32) (H1 : Heap) (locs1 : List Loc) (ls1 : Array Slot), gw D A s.heap (wX10_walked cI cB cZ cM cJ cK n_p1 a_t a_t_text a_t_corners a_t_streets a_t_ends a_t_time a_t_leaders a_t_home a_t_feet a_t_far a_t_now a_t_isKept a_t_tried a_t_row a_t_who a_t_then a_t_best a_t_seenAs a_t_seenAt a_t_plan a_p1 t_trace t_typed t_at t_start t_sort t_value t_fault t_rowLong t_homes t_bestValue t_seen t_planMany t_streets p1) H1 locs1 → lv_has ls1 4 [(0, .ref a_t), (1, .ref a_p1), (2, .int x2), (3, .int x3)] → F = fX10_walked_b4 N n_p1 t_streets p1  n x2 x3 → W p l e rmX10_walked s m [.ref a_t, .ref a_p1].toArray below meth c H1 locs1 0 0 (MQ below (gQ F (fun _u : Int32 => some (.int _u)) (fun _u : Int32 => (wX10_walked cI cB cZ cM cJ cK n_p1 a_t a_t_text a_t_corners a_t_streets a_t_ends a_t_time a_t_leaders a_t_home a_t_feet a_t_far a_t_now a_t_isKept a_t_tried a_t_row a_t_who a_t_then a_t_best a_t_seenAs a_t_seenAt a_t_plan a_p1 t_trace t_typed t_at t_start t_sort t_value t_fault t_rowLong t_homes t_bestValue t_seen t_planMany t_streets p1)) D A) [.ref a_t, .ref a_p1].toArray s 0 0 A) (F0 m 4 ls1 []) := by
    intro  n
    induction n with
    | zero => intro x2 x3 H locs ls Wd hl hf; exact absurd hf hF
    | succ n ih =>
      intro x2 x3 H locs ls Wd hl hf
      refine lv_iload_n S.1 S.2.1 dX10_walked_4 rfl (lv_at hl 3 rfl) ?_
      refine lv_aload_n S.1 S.2.1 dX10_walked_5 rfl (lv_at hl 0 rfl) ?_
      refine g_get (a := a_t) S hK Wd iX10_walked_X10 0 rfl rfl 4 rfl rfl kX10_walked_1 rfl dX10_walked_6 ?_
      refine lv_iconst (v := 0) S.1 S.2.1 dX10_walked_9 (by decide) ?_
      refine g_iald (a := a_t_streets) S hK Wd 1 0 rfl rfl (show ¬ (((0 : Int32) < 0) ∨ 2 ≤ Int32.toNatClampNeg (0 : Int32)) from by decide) dX10_walked_10 ?_
      refine lv_icmp_ge (tgt := 38) S.1 S.2.1 dX10_walked_11 rfl (fun c1 => ?_) (fun c1 => ?_)
      · have hf := g_if hf c1
        refine lv_iload_n S.1 S.2.1 dX10_walked_38 rfl (lv_at hl 2 rfl) ?_
        exact g_iret S Wd hr hlk dX10_walked_39 x2 hf rfl rfl
      · have hf := g_ifn hf c1
        refine lv_iload_n S.1 S.2.1 dX10_walked_14 rfl (lv_at hl 2 rfl) ?_
        refine lv_aload_n S.1 S.2.1 dX10_walked_15 rfl (lv_at hl 1 rfl) ?_
        refine lv_iconst (v := 5) S.1 S.2.1 dX10_walked_16 (by decide) ?_
        refine lv_iload_n S.1 S.2.1 dX10_walked_17 rfl (lv_at hl 3 rfl) ?_
        refine lv_iadd S.1 S.2.1 dX10_walked_18 ?_
        obtain ⟨h2, hf⟩ := g_gi hF hf
        refine g_iald (a := a_p1) S hK Wd 2 0 rfl rfl h2 dX10_walked_19 ?_
        refine lv_if_le (tgt := 29) S.1 S.2.1 dX10_walked_20 rfl (fun c3 => ?_) (fun c3 => ?_)
        · have hf := g_if hf c3
          refine lv_iconst (v := 0) S.1 S.2.1 dX10_walked_29 (by decide) ?_
          exact b30 (fun x2 x3 => fX10_walked_b4 N n_p1 t_streets p1 n x2 x3) ih x3 (0 : Int32) x2 _ _ _ Wd (lv_sub hl [0, 1, 3] rfl) hf
        · have hf := g_ifn hf c3
          refine lv_iconst (v := 1) S.1 S.2.1 dX10_walked_23 (by decide) ?_
          refine lv_iload_n S.1 S.2.1 dX10_walked_24 rfl (lv_at hl 3 rfl) ?_
          refine lv_ishl S.1 S.2.1 dX10_walked_25 ?_
          refine lv_goto (tgt := 30) S.1 S.2.1 dX10_walked_26 rfl ?_
          exact b30 (fun x2 x3 => fX10_walked_b4 N n_p1 t_streets p1 n x2 x3) ih x3 ((1 : Int32) <<< (x3 &&& 31)) x2 _ _ _ Wd (lv_sub hl [0, 1, 3] rfl) hf
  refine lv_iconst (v := 0) S.1 S.2.1 dX10_walked_0 (by decide) ?_
  refine lv_istore_n (lv' := [(2, .int (0 : Int32)), (0, .ref a_t), (1, .ref a_p1)]) S.1 S.2.1 dX10_walked_1 rfl hl (by decide) rfl (fun ls hl => ?_)
  refine lv_iconst (v := 0) S.1 S.2.1 dX10_walked_2 (by decide) ?_
  refine lv_istore_n (lv' := [(3, .int (0 : Int32)), (2, .int (0 : Int32)), (0, .ref a_t), (1, .ref a_p1)]) S.1 S.2.1 dX10_walked_3 rfl hl (by decide) rfl (fun ls hl => ?_)
  exact b4  N (0 : Int32) (0 : Int32) _ _ _ Wd (lv_sub hl [2, 3, 1, 0] rfl) hf
def wX10_know (cI cB cZ cM cJ cK : ClassId) (a_t a_t_text a_t_corners a_t_streets a_t_ends a_t_time a_t_leaders a_t_home a_t_feet a_t_far a_t_now a_t_isKept a_t_tried a_t_row a_t_who a_t_then a_t_best a_t_seenAs a_t_seenAt a_t_plan : Nat) (t_trace : Int64) (t_typed t_at t_start t_sort t_value t_fault t_rowLong t_homes t_bestValue t_seen t_planMany : Int32) (t_now : Nat → Int32) : List va_W := [[(a_t, .inr (10, [.long t_trace, .ref a_t_text, .int t_typed, .ref a_t_corners, .ref a_t_streets, .ref a_t_ends, .ref a_t_time, .ref a_t_leaders, .ref a_t_home, .ref a_t_feet, .int t_at, .int t_start, .int t_sort, .int t_value, .int t_fault, .ref a_t_far, .ref a_t_now, .ref a_t_isKept, .ref a_t_tried, .ref a_t_row, .int t_rowLong, .ref a_t_who, .ref a_t_then, .int t_homes, .ref a_t_best, .int t_bestValue, .ref a_t_seenAs, .ref a_t_seenAt, .int t_seen, .ref a_t_plan, .int t_planMany]))], [(a_t_now, .inl (cI, 564, .inl t_now))]]
def rmX10_know : Room := { frames := 0, cells := 0, slots := 0, locals := 0 }
theorem kX10_know_1 : Cond.fieldLink RX10 38 "FeastMarchModel" "now" "[I" ∈ wsX10_know := List.mem_of_getElem? (i := 1) rfl
theorem iX10_know_X10 : ∀ w ∈ wsX100, w ∈ wsX10_know := fun _ h => List.mem_cons_of_mem _ (List.mem_append_right _ h)
theorem n_X10_know : yX10_know.cls = RX10 ∧ yX10_know.cls ≠ "java/lang/invoke/MethodHandle" ∧ yX10_know.cls ≠ "java/lang/invoke/VarHandle" ∧ (parseMethodDescriptor yX10_know.desc).map (fun d => d.parameters.length) = some 0 := by decide +kernel
set_option maxHeartbeats 4000000 in
set_option maxRecDepth 100000 in
theorem c_X10_know (l : Launch) (D : va_G) (N : Nat) (cI cB cZ cM cJ cK : ClassId) (a_t a_t_text a_t_corners a_t_streets a_t_ends a_t_time a_t_leaders a_t_home a_t_feet a_t_far a_t_now a_t_isKept a_t_tried a_t_row a_t_who a_t_then a_t_best a_t_seenAs a_t_seenAt a_t_plan : Nat) (t_trace : Int64) (t_typed t_at t_start t_sort t_value t_fault t_rowLong t_homes t_bestValue t_seen t_planMany : Int32) (t_now : Nat → Int32) : gM l yX10_know wsX10_know rmX10_know D (gT cI cB cZ cM cJ cK) (wX10_know cI cB cZ cM cJ cK  a_t a_t_text a_t_corners a_t_streets a_t_ends a_t_time a_t_leaders a_t_home a_t_feet a_t_far a_t_now a_t_isKept a_t_tried a_t_row a_t_who a_t_then a_t_best a_t_seenAs a_t_seenAt a_t_plan t_trace t_typed t_at t_start t_sort t_value t_fault t_rowLong t_homes t_bestValue t_seen t_planMany t_now) [.ref a_t] (fX10_know N t_now) (fun _u : (Nat → Int32) => none) (fun _u : (Nat → Int32) => (wX10_know cI cB cZ cM cJ cK  a_t a_t_text a_t_corners a_t_streets a_t_ends a_t_time a_t_leaders a_t_home a_t_feet a_t_far a_t_now a_t_isKept a_t_tried a_t_row a_t_who a_t_then a_t_best a_t_seenAs a_t_seenAt a_t_plan t_trace t_typed t_at t_start t_sort t_value t_fault t_rowLong t_homes t_bestValue t_seen t_planMany _u)) := by
  refine g_start (cc := cX10_know) (maxL := 2) (ret := none) (by decide) rfl (Nat.le_of_ble_eq_true rfl) ?_
  intro F hf hF p e s m below meth c A ls S hK hA Wd hr hlk hnm hl
  have b58 : ∀ (n : Nat), ∀ (t_now : Nat → Int32) (x1 : Int32) (H1 : Heap) (locs1 : List Loc) (ls1 : Array Slot), gw D A s.heap (wX10_know cI cB cZ cM cJ cK  a_t a_t_text a_t_corners a_t_streets a_t_ends a_t_time a_t_leaders a_t_home a_t_feet a_t_far a_t_now a_t_isKept a_t_tried a_t_row a_t_who a_t_then a_t_best a_t_seenAs a_t_seenAt a_t_plan t_trace t_typed t_at t_start t_sort t_value t_fault t_rowLong t_homes t_bestValue t_seen t_planMany t_now) H1 locs1 → lv_has ls1 2 [(0, .ref a_t), (1, .int x1)] → F = fX10_know_b58 N  n t_now x1 → W p l e rmX10_know s m [.ref a_t].toArray below meth c H1 locs1 0 0 (MQ below (gQ F (fun _u : (Nat → Int32) => none) (fun _u : (Nat → Int32) => (wX10_know cI cB cZ cM cJ cK  a_t a_t_text a_t_corners a_t_streets a_t_ends a_t_time a_t_leaders a_t_home a_t_feet a_t_far a_t_now a_t_isKept a_t_tried a_t_row a_t_who a_t_then a_t_best a_t_seenAs a_t_seenAt a_t_plan t_trace t_typed t_at t_start t_sort t_value t_fault t_rowLong t_homes t_bestValue t_seen t_planMany _u)) D A) [.ref a_t].toArray s 0 0 A) (F0 m 58 ls1 []) := by
    intro  n
    induction n with
    | zero => intro t_now x1 H locs ls Wd hl hf; exact absurd hf hF
    | succ n ih =>
      intro t_now x1 H locs ls Wd hl hf
      refine lv_iload_n S.1 S.2.1 dX10_know_58 rfl (lv_at hl 1 rfl) ?_
      refine lv_bipush (v := 17) S.1 S.2.1 dX10_know_59 (by decide) ?_
      refine lv_icmp_ge (tgt := 96) S.1 S.2.1 dX10_know_61 rfl (fun c5 => ?_) (fun c5 => ?_)
      · have hf := g_if hf c5
        refine lv_aload_n S.1 S.2.1 dX10_know_96 rfl (lv_at hl 0 rfl) ?_
        refine g_get (a := a_t) S hK Wd iX10_know_X10 0 rfl rfl 16 rfl rfl kX10_know_1 rfl dX10_know_97 ?_
        refine lv_bipush (v := 17) S.1 S.2.1 dX10_know_100 (by decide) ?_
        refine lv_dup2_11 S.1 S.2.1 dX10_know_102 rfl rfl ?_
        refine g_iald (a := a_t_now) S hK Wd 1 0 rfl rfl (show ¬ (((17 : Int32) < 0) ∨ 564 ≤ Int32.toNatClampNeg (17 : Int32)) from by decide) dX10_know_103 ?_
        refine lv_iconst (v := 1) S.1 S.2.1 dX10_know_104 (by decide) ?_
        refine lv_iadd S.1 S.2.1 dX10_know_105 ?_
        refine g_iast (a := a_t_now) (ws' := (wX10_know cI cB cZ cM cJ cK  a_t a_t_text a_t_corners a_t_streets a_t_ends a_t_time a_t_leaders a_t_home a_t_feet a_t_far a_t_now a_t_isKept a_t_tried a_t_row a_t_who a_t_then a_t_best a_t_seenAs a_t_seenAt a_t_plan t_trace t_typed t_at t_start t_sort t_value t_fault t_rowLong t_homes t_bestValue t_seen t_planMany (upd t_now (17 : Int32).toNatClampNeg ((t_now (17 : Int32).toNatClampNeg) + (1 : Int32))))) S hK Wd 1 0 rfl rfl (show ¬ (((17 : Int32) < 0) ∨ 564 ≤ Int32.toNatClampNeg (17 : Int32)) from by decide) dX10_know_106 rfl (fun H locs Wd => ?_)
        exact g_vret S Wd hr hlk dX10_know_107 (upd t_now (17 : Int32).toNatClampNeg ((t_now (17 : Int32).toNatClampNeg) + (1 : Int32))) hf rfl rfl
      · have hf := g_ifn hf c5
        refine lv_aload_n S.1 S.2.1 dX10_know_64 rfl (lv_at hl 0 rfl) ?_
        refine g_get (a := a_t) S hK Wd iX10_know_X10 0 rfl rfl 16 rfl rfl kX10_know_1 rfl dX10_know_65 ?_
        refine lv_bipush (v := 18) S.1 S.2.1 dX10_know_68 (by decide) ?_
        refine lv_bipush (v := 17) S.1 S.2.1 dX10_know_70 (by decide) ?_
        refine lv_aload_n S.1 S.2.1 dX10_know_72 rfl (lv_at hl 0 rfl) ?_
        refine g_get (a := a_t) S hK Wd iX10_know_X10 0 rfl rfl 16 rfl rfl kX10_know_1 rfl dX10_know_73 ?_
        refine lv_bipush (v := 17) S.1 S.2.1 dX10_know_76 (by decide) ?_
        refine g_iald (a := a_t_now) S hK Wd 1 0 rfl rfl (show ¬ (((17 : Int32) < 0) ∨ 564 ≤ Int32.toNatClampNeg (17 : Int32)) from by decide) dX10_know_78 ?_
        refine lv_imul S.1 S.2.1 dX10_know_79 ?_
        refine lv_iadd S.1 S.2.1 dX10_know_80 ?_
        refine lv_iload_n S.1 S.2.1 dX10_know_81 rfl (lv_at hl 1 rfl) ?_
        refine lv_iadd S.1 S.2.1 dX10_know_82 ?_
        refine lv_aload_n S.1 S.2.1 dX10_know_83 rfl (lv_at hl 0 rfl) ?_
        refine g_get (a := a_t) S hK Wd iX10_know_X10 0 rfl rfl 16 rfl rfl kX10_know_1 rfl dX10_know_84 ?_
        refine lv_iload_n S.1 S.2.1 dX10_know_87 rfl (lv_at hl 1 rfl) ?_
        obtain ⟨h6, hf⟩ := g_gi hF hf
        refine g_iald (a := a_t_now) S hK Wd 1 0 rfl rfl h6 dX10_know_88 ?_
        obtain ⟨h7, hf⟩ := g_gi hF hf
        refine g_iast (a := a_t_now) (ws' := (wX10_know cI cB cZ cM cJ cK  a_t a_t_text a_t_corners a_t_streets a_t_ends a_t_time a_t_leaders a_t_home a_t_feet a_t_far a_t_now a_t_isKept a_t_tried a_t_row a_t_who a_t_then a_t_best a_t_seenAs a_t_seenAt a_t_plan t_trace t_typed t_at t_start t_sort t_value t_fault t_rowLong t_homes t_bestValue t_seen t_planMany (upd t_now (((18 : Int32) + ((17 : Int32) * (t_now (17 : Int32).toNatClampNeg))) + x1).toNatClampNeg (t_now x1.toNatClampNeg)))) S hK Wd 1 0 rfl rfl h7 dX10_know_89 rfl (fun H locs Wd => ?_)
        refine lv_iinc (v := (x1 + (1 : Int32))) (lv' := [(1, .int (x1 + (1 : Int32))), (0, .ref a_t)]) S.1 S.2.1 dX10_know_90 hl (k := 1) rfl rfl (by decide) rfl (fun ls hl => ?_)
        refine lv_goto (tgt := 58) S.1 S.2.1 dX10_know_93 rfl ?_
        exact ih (upd t_now (((18 : Int32) + ((17 : Int32) * (t_now (17 : Int32).toNatClampNeg))) + x1).toNatClampNeg (t_now x1.toNatClampNeg)) (x1 + (1 : Int32)) _ _ _ Wd (lv_sub hl [1, 0] rfl) hf
  have b56 : ∀ (t_now : Nat → Int32) (H1 : Heap) (locs1 : List Loc) (ls1 : Array Slot), gw D A s.heap (wX10_know cI cB cZ cM cJ cK  a_t a_t_text a_t_corners a_t_streets a_t_ends a_t_time a_t_leaders a_t_home a_t_feet a_t_far a_t_now a_t_isKept a_t_tried a_t_row a_t_who a_t_then a_t_best a_t_seenAs a_t_seenAt a_t_plan t_trace t_typed t_at t_start t_sort t_value t_fault t_rowLong t_homes t_bestValue t_seen t_planMany t_now) H1 locs1 → lv_has ls1 2 [(0, .ref a_t)] → F = fX10_know_b56 N  t_now → W p l e rmX10_know s m [.ref a_t].toArray below meth c H1 locs1 0 0 (MQ below (gQ F (fun _u : (Nat → Int32) => none) (fun _u : (Nat → Int32) => (wX10_know cI cB cZ cM cJ cK  a_t a_t_text a_t_corners a_t_streets a_t_ends a_t_time a_t_leaders a_t_home a_t_feet a_t_far a_t_now a_t_isKept a_t_tried a_t_row a_t_who a_t_then a_t_best a_t_seenAs a_t_seenAt a_t_plan t_trace t_typed t_at t_start t_sort t_value t_fault t_rowLong t_homes t_bestValue t_seen t_planMany _u)) D A) [.ref a_t].toArray s 0 0 A) (F0 m 56 ls1 []) := by
    intro  t_now H locs ls Wd hl hf
    refine lv_iconst (v := 0) S.1 S.2.1 dX10_know_56 (by decide) ?_
    refine lv_istore_n (lv' := [(1, .int (0 : Int32)), (0, .ref a_t)]) S.1 S.2.1 dX10_know_57 rfl hl (by decide) rfl (fun ls hl => ?_)
    exact b58  N t_now (0 : Int32) _ _ _ Wd (lv_sub hl [1, 0] rfl) hf
  have b14 : ∀ (n : Nat), ∀ (t_now : Nat → Int32) (x1 : Int32) (H1 : Heap) (locs1 : List Loc) (ls1 : Array Slot), gw D A s.heap (wX10_know cI cB cZ cM cJ cK  a_t a_t_text a_t_corners a_t_streets a_t_ends a_t_time a_t_leaders a_t_home a_t_feet a_t_far a_t_now a_t_isKept a_t_tried a_t_row a_t_who a_t_then a_t_best a_t_seenAs a_t_seenAt a_t_plan t_trace t_typed t_at t_start t_sort t_value t_fault t_rowLong t_homes t_bestValue t_seen t_planMany t_now) H1 locs1 → lv_has ls1 2 [(0, .ref a_t), (1, .int x1)] → F = fX10_know_b14 N  n t_now x1 → W p l e rmX10_know s m [.ref a_t].toArray below meth c H1 locs1 0 0 (MQ below (gQ F (fun _u : (Nat → Int32) => none) (fun _u : (Nat → Int32) => (wX10_know cI cB cZ cM cJ cK  a_t a_t_text a_t_corners a_t_streets a_t_ends a_t_time a_t_leaders a_t_home a_t_feet a_t_far a_t_now a_t_isKept a_t_tried a_t_row a_t_who a_t_then a_t_best a_t_seenAs a_t_seenAt a_t_plan t_trace t_typed t_at t_start t_sort t_value t_fault t_rowLong t_homes t_bestValue t_seen t_planMany _u)) D A) [.ref a_t].toArray s 0 0 A) (F0 m 14 ls1 []) := by
    intro  n
    induction n with
    | zero => intro t_now x1 H locs ls Wd hl hf; exact absurd hf hF
    | succ n ih =>
      intro t_now x1 H locs ls Wd hl hf
      refine lv_iload_n S.1 S.2.1 dX10_know_14 rfl (lv_at hl 1 rfl) ?_
      refine lv_sipush (v := 153) S.1 S.2.1 dX10_know_15 (by decide) ?_
      refine lv_icmp_ge (tgt := 45) S.1 S.2.1 dX10_know_18 rfl (fun c2 => ?_) (fun c2 => ?_)
      · have hf := g_if hf c2
        refine lv_aload_n S.1 S.2.1 dX10_know_45 rfl (lv_at hl 0 rfl) ?_
        refine g_get (a := a_t) S hK Wd iX10_know_X10 0 rfl rfl 16 rfl rfl kX10_know_1 rfl dX10_know_46 ?_
        refine lv_bipush (v := 17) S.1 S.2.1 dX10_know_49 (by decide) ?_
        refine lv_dup2_11 S.1 S.2.1 dX10_know_51 rfl rfl ?_
        refine g_iald (a := a_t_now) S hK Wd 1 0 rfl rfl (show ¬ (((17 : Int32) < 0) ∨ 564 ≤ Int32.toNatClampNeg (17 : Int32)) from by decide) dX10_know_52 ?_
        refine lv_iconst (v := 1) S.1 S.2.1 dX10_know_53 (by decide) ?_
        refine lv_isub S.1 S.2.1 dX10_know_54 ?_
        refine g_iast (a := a_t_now) (ws' := (wX10_know cI cB cZ cM cJ cK  a_t a_t_text a_t_corners a_t_streets a_t_ends a_t_time a_t_leaders a_t_home a_t_feet a_t_far a_t_now a_t_isKept a_t_tried a_t_row a_t_who a_t_then a_t_best a_t_seenAs a_t_seenAt a_t_plan t_trace t_typed t_at t_start t_sort t_value t_fault t_rowLong t_homes t_bestValue t_seen t_planMany (upd t_now (17 : Int32).toNatClampNeg ((t_now (17 : Int32).toNatClampNeg) - (1 : Int32))))) S hK Wd 1 0 rfl rfl (show ¬ (((17 : Int32) < 0) ∨ 564 ≤ Int32.toNatClampNeg (17 : Int32)) from by decide) dX10_know_55 rfl (fun H locs Wd => ?_)
        exact b56  (upd t_now (17 : Int32).toNatClampNeg ((t_now (17 : Int32).toNatClampNeg) - (1 : Int32))) _ _ _ Wd (lv_sub hl [0] rfl) hf
      · have hf := g_ifn hf c2
        refine lv_aload_n S.1 S.2.1 dX10_know_21 rfl (lv_at hl 0 rfl) ?_
        refine g_get (a := a_t) S hK Wd iX10_know_X10 0 rfl rfl 16 rfl rfl kX10_know_1 rfl dX10_know_22 ?_
        refine lv_bipush (v := 18) S.1 S.2.1 dX10_know_25 (by decide) ?_
        refine lv_iload_n S.1 S.2.1 dX10_know_27 rfl (lv_at hl 1 rfl) ?_
        refine lv_iadd S.1 S.2.1 dX10_know_28 ?_
        refine lv_aload_n S.1 S.2.1 dX10_know_29 rfl (lv_at hl 0 rfl) ?_
        refine g_get (a := a_t) S hK Wd iX10_know_X10 0 rfl rfl 16 rfl rfl kX10_know_1 rfl dX10_know_30 ?_
        refine lv_bipush (v := 35) S.1 S.2.1 dX10_know_33 (by decide) ?_
        refine lv_iload_n S.1 S.2.1 dX10_know_35 rfl (lv_at hl 1 rfl) ?_
        refine lv_iadd S.1 S.2.1 dX10_know_36 ?_
        obtain ⟨h3, hf⟩ := g_gi hF hf
        refine g_iald (a := a_t_now) S hK Wd 1 0 rfl rfl h3 dX10_know_37 ?_
        obtain ⟨h4, hf⟩ := g_gi hF hf
        refine g_iast (a := a_t_now) (ws' := (wX10_know cI cB cZ cM cJ cK  a_t a_t_text a_t_corners a_t_streets a_t_ends a_t_time a_t_leaders a_t_home a_t_feet a_t_far a_t_now a_t_isKept a_t_tried a_t_row a_t_who a_t_then a_t_best a_t_seenAs a_t_seenAt a_t_plan t_trace t_typed t_at t_start t_sort t_value t_fault t_rowLong t_homes t_bestValue t_seen t_planMany (upd t_now ((18 : Int32) + x1).toNatClampNeg (t_now ((35 : Int32) + x1).toNatClampNeg)))) S hK Wd 1 0 rfl rfl h4 dX10_know_38 rfl (fun H locs Wd => ?_)
        refine lv_iinc (v := (x1 + (1 : Int32))) (lv' := [(1, .int (x1 + (1 : Int32))), (0, .ref a_t)]) S.1 S.2.1 dX10_know_39 hl (k := 1) rfl rfl (by decide) rfl (fun ls hl => ?_)
        refine lv_goto (tgt := 14) S.1 S.2.1 dX10_know_42 rfl ?_
        exact ih (upd t_now ((18 : Int32) + x1).toNatClampNeg (t_now ((35 : Int32) + x1).toNatClampNeg)) (x1 + (1 : Int32)) _ _ _ Wd (lv_sub hl [1, 0] rfl) hf
  refine lv_aload_n S.1 S.2.1 dX10_know_0 rfl (lv_at hl 0 rfl) ?_
  refine g_get (a := a_t) S hK Wd iX10_know_X10 0 rfl rfl 16 rfl rfl kX10_know_1 rfl dX10_know_1 ?_
  refine lv_bipush (v := 17) S.1 S.2.1 dX10_know_4 (by decide) ?_
  refine g_iald (a := a_t_now) S hK Wd 1 0 rfl rfl (show ¬ (((17 : Int32) < 0) ∨ 564 ≤ Int32.toNatClampNeg (17 : Int32)) from by decide) dX10_know_6 ?_
  refine lv_bipush (v := 10) S.1 S.2.1 dX10_know_7 (by decide) ?_
  refine lv_icmp_ne (tgt := 56) S.1 S.2.1 dX10_know_9 rfl (fun c1 => ?_) (fun c1 => ?_)
  · have hf := g_ifn hf c1
    exact b56  t_now _ _ _ Wd hl hf
  · have hf := g_if hf c1
    refine lv_iconst (v := 0) S.1 S.2.1 dX10_know_12 (by decide) ?_
    refine lv_istore_n (lv' := [(1, .int (0 : Int32)), (0, .ref a_t)]) S.1 S.2.1 dX10_know_13 rfl hl (by decide) rfl (fun ls hl => ?_)
    exact b14  N t_now (0 : Int32) _ _ _ Wd (lv_sub hl [1, 0] rfl) hf
def wX10_leads (cI cB cZ cM cJ cK : ClassId) (a_t a_t_text a_t_corners a_t_streets a_t_ends a_t_time a_t_leaders a_t_home a_t_feet a_t_far a_t_now a_t_isKept a_t_tried a_t_row a_t_who a_t_then a_t_best a_t_seenAs a_t_seenAt a_t_plan : Nat) (t_trace : Int64) (t_typed t_at t_start t_sort t_value t_fault t_rowLong t_homes t_bestValue t_seen t_planMany : Int32) (t_streets t_ends t_time t_leaders t_home t_feet t_far t_now : Nat → Int32) : List va_W := [[(a_t, .inr (10, [.long t_trace, .ref a_t_text, .int t_typed, .ref a_t_corners, .ref a_t_streets, .ref a_t_ends, .ref a_t_time, .ref a_t_leaders, .ref a_t_home, .ref a_t_feet, .int t_at, .int t_start, .int t_sort, .int t_value, .int t_fault, .ref a_t_far, .ref a_t_now, .ref a_t_isKept, .ref a_t_tried, .ref a_t_row, .int t_rowLong, .ref a_t_who, .ref a_t_then, .int t_homes, .ref a_t_best, .int t_bestValue, .ref a_t_seenAs, .ref a_t_seenAt, .int t_seen, .ref a_t_plan, .int t_planMany]))], [(a_t_streets, .inl (cI, 2, .inl t_streets))], [(a_t_ends, .inl (cI, 48, .inl t_ends))], [(a_t_time, .inl (cI, 24, .inl t_time))], [(a_t_leaders, .inl (cI, 2, .inl t_leaders))], [(a_t_home, .inl (cI, 12, .inl t_home))], [(a_t_feet, .inl (cI, 12, .inl t_feet))], [(a_t_far, .inl (cI, 64, .inl t_far))], [(a_t_now, .inl (cI, 564, .inl t_now))]]
def rmX10_leads : Room := { frames := 2, cells := 0, slots := 0, locals := 54 }
theorem kX10_leads_1 : Cond.fieldLink RX10 38 "FeastMarchModel" "now" "[I" ∈ wsX10_leads := List.mem_of_getElem? (i := 1) rfl
theorem iX10_leads_X10 : ∀ w ∈ wsX100, w ∈ wsX10_leads := fun _ h => List.mem_cons_of_mem _ (List.mem_append_right _ h)
theorem n_X10_leads : yX10_leads.cls = RX10 ∧ yX10_leads.cls ≠ "java/lang/invoke/MethodHandle" ∧ yX10_leads.cls ≠ "java/lang/invoke/VarHandle" ∧ (parseMethodDescriptor yX10_leads.desc).map (fun d => d.parameters.length) = some 1 := by decide +kernel
set_option maxHeartbeats 4000000 in
set_option maxRecDepth 100000 in
theorem c_X10_leads (l : Launch) (D : va_G) (N : Nat) (cI cB cZ cM cJ cK : ClassId) (a_t a_t_text a_t_corners a_t_streets a_t_ends a_t_time a_t_leaders a_t_home a_t_feet a_t_far a_t_now a_t_isKept a_t_tried a_t_row a_t_who a_t_then a_t_best a_t_seenAs a_t_seenAt a_t_plan : Nat) (t_trace : Int64) (t_typed t_at t_start t_sort t_value t_fault t_rowLong t_homes t_bestValue t_seen t_planMany : Int32) (t_streets t_ends t_time t_leaders t_home t_feet t_far t_now : Nat → Int32) (x1 : Int32) : gM l yX10_leads wsX10_leads rmX10_leads D (gT cI cB cZ cM cJ cK) (wX10_leads cI cB cZ cM cJ cK  a_t a_t_text a_t_corners a_t_streets a_t_ends a_t_time a_t_leaders a_t_home a_t_feet a_t_far a_t_now a_t_isKept a_t_tried a_t_row a_t_who a_t_then a_t_best a_t_seenAs a_t_seenAt a_t_plan t_trace t_typed t_at t_start t_sort t_value t_fault t_rowLong t_homes t_bestValue t_seen t_planMany t_streets t_ends t_time t_leaders t_home t_feet t_far t_now) [.ref a_t, .int x1] (fX10_leads N t_streets t_ends t_time t_leaders t_home t_feet t_far t_now x1) (fun _u : Int32 × (Nat → Int32) => some (.int _u.1)) (fun _u : Int32 × (Nat → Int32) => (wX10_leads cI cB cZ cM cJ cK  a_t a_t_text a_t_corners a_t_streets a_t_ends a_t_time a_t_leaders a_t_home a_t_feet a_t_far a_t_now a_t_isKept a_t_tried a_t_row a_t_who a_t_then a_t_best a_t_seenAs a_t_seenAt a_t_plan t_trace t_typed t_at t_start t_sort t_value t_fault t_rowLong t_homes t_bestValue t_seen t_planMany t_streets t_ends t_time t_leaders t_home t_feet t_far _u.2)) := by
  refine g_start (cc := cX10_leads) (maxL := 2) (ret := (some .int)) (by decide) rfl (Nat.le_of_ble_eq_true rfl) ?_
  intro F hf hF p e s m below meth c A ls S hK hA Wd hr hlk hnm hl
  refine lv_aload_n S.1 S.2.1 dX10_leads_0 rfl (lv_at hl 0 rfl) ?_
  refine lv_iload_n S.1 S.2.1 dX10_leads_1 rfl (lv_at hl 1 rfl) ?_
  obtain ⟨u1, hu1, hf⟩ := g_bind hF hf
  refine g_callV (ws' := (wX10_leads cI cB cZ cM cJ cK  a_t a_t_text a_t_corners a_t_streets a_t_ends a_t_time a_t_leaders a_t_home a_t_feet a_t_far a_t_now a_t_isKept a_t_tried a_t_row a_t_who a_t_then a_t_best a_t_seenAs a_t_seenAt a_t_plan t_trace t_typed t_at t_start t_sort t_value t_fault t_rowLong t_homes t_bestValue t_seen t_planMany t_streets t_ends t_time t_leaders t_home t_feet t_far t_now)) (As := [.int x1]) (rest := []) (st1 := [.int u1]) S hK hA Wd (c_X10_isLeader l D N cI cB cZ cM cJ cK a_t a_t_text a_t_corners a_t_streets a_t_ends a_t_time a_t_leaders a_t_home a_t_feet a_t_far a_t_now a_t_isKept a_t_tried a_t_row a_t_who a_t_then a_t_best a_t_seenAs a_t_seenAt a_t_plan t_trace t_typed t_at t_start t_sort t_value t_fault t_rowLong t_homes t_bestValue t_seen t_planMany t_leaders x1) (cwV 1 S.2.2.2.2 gX10_leads_X10_isLeader rfl rfl rfl n_X10_isLeader ⟨Nat.le_of_ble_eq_true rfl, Nat.le_of_ble_eq_true rfl⟩) hu1 [0, 4] rfl rfl 0 10 rfl rfl rfl rfl rfl rfl rfl hl.1 rfl (Nat.le_of_ble_eq_true rfl) dX10_leads_2 ⟨Nat.zero_le _, Nat.zero_le _⟩ (fun H locs Wd => ?_)
  refine lv_if_ne (tgt := 10) S.1 S.2.1 dX10_leads_5 rfl (fun c2 => ?_) (fun c2 => ?_)
  · have hf := g_ifn hf c2
    refine lv_aload_n S.1 S.2.1 dX10_leads_10 rfl (lv_at hl 0 rfl) ?_
    refine g_get (a := a_t) S hK Wd iX10_leads_X10 0 rfl rfl 16 rfl rfl kX10_leads_1 rfl dX10_leads_11 ?_
    refine lv_iconst (v := 3) S.1 S.2.1 dX10_leads_14 (by decide) ?_
    refine g_iald (a := a_t_now) S hK Wd 8 0 rfl rfl (show ¬ (((3 : Int32) < 0) ∨ 564 ≤ Int32.toNatClampNeg (3 : Int32)) from by decide) dX10_leads_15 ?_
    refine lv_iload_n S.1 S.2.1 dX10_leads_16 rfl (lv_at hl 1 rfl) ?_
    refine lv_ishr S.1 S.2.1 dX10_leads_17 ?_
    refine lv_iconst (v := 1) S.1 S.2.1 dX10_leads_18 (by decide) ?_
    refine lv_iand S.1 S.2.1 dX10_leads_19 ?_
    refine lv_iconst (v := 1) S.1 S.2.1 dX10_leads_20 (by decide) ?_
    refine lv_icmp_ne (tgt := 27) S.1 S.2.1 dX10_leads_21 rfl (fun c3 => ?_) (fun c3 => ?_)
    · have hf := g_ifn hf c3
      refine lv_aload_n S.1 S.2.1 dX10_leads_27 rfl (lv_at hl 0 rfl) ?_
      obtain ⟨u4, hu4, hf⟩ := g_bind hF hf
      refine g_callV (ws' := (wX10_leads cI cB cZ cM cJ cK  a_t a_t_text a_t_corners a_t_streets a_t_ends a_t_time a_t_leaders a_t_home a_t_feet a_t_far a_t_now a_t_isKept a_t_tried a_t_row a_t_who a_t_then a_t_best a_t_seenAs a_t_seenAt a_t_plan t_trace t_typed t_at t_start t_sort t_value t_fault t_rowLong t_homes t_bestValue t_seen t_planMany t_streets t_ends t_time t_leaders t_home t_feet t_far u4)) (As := []) (rest := []) (st1 := []) S hK hA Wd (c_X10_know l D N cI cB cZ cM cJ cK a_t a_t_text a_t_corners a_t_streets a_t_ends a_t_time a_t_leaders a_t_home a_t_feet a_t_far a_t_now a_t_isKept a_t_tried a_t_row a_t_who a_t_then a_t_best a_t_seenAs a_t_seenAt a_t_plan t_trace t_typed t_at t_start t_sort t_value t_fault t_rowLong t_homes t_bestValue t_seen t_planMany t_now) (cwV 0 S.2.2.2.2 gX10_leads_X10_know rfl rfl rfl n_X10_know ⟨Nat.le_of_ble_eq_true rfl, Nat.le_of_ble_eq_true rfl⟩) hu4 [0, 8] rfl rfl 0 10 rfl rfl rfl rfl rfl rfl rfl hl.1 rfl (Nat.le_of_ble_eq_true rfl) dX10_leads_28 ⟨Nat.zero_le _, Nat.zero_le _⟩ (fun H locs Wd => ?_)
      refine lv_aload_n S.1 S.2.1 dX10_leads_31 rfl (lv_at hl 0 rfl) ?_
      refine lv_aload_n S.1 S.2.1 dX10_leads_32 rfl (lv_at hl 0 rfl) ?_
      refine g_get (a := a_t) S hK Wd iX10_leads_X10 0 rfl rfl 16 rfl rfl kX10_leads_1 rfl dX10_leads_33 ?_
      refine lv_iload_n S.1 S.2.1 dX10_leads_36 rfl (lv_at hl 1 rfl) ?_
      obtain ⟨u5, hu5, hf⟩ := g_bind hF hf
      refine g_callV (ws' := (wX10_leads cI cB cZ cM cJ cK  a_t a_t_text a_t_corners a_t_streets a_t_ends a_t_time a_t_leaders a_t_home a_t_feet a_t_far a_t_now a_t_isKept a_t_tried a_t_row a_t_who a_t_then a_t_best a_t_seenAs a_t_seenAt a_t_plan t_trace t_typed t_at t_start t_sort t_value t_fault t_rowLong t_homes t_bestValue t_seen t_planMany t_streets t_ends t_time t_leaders t_home t_feet t_far u5.2)) (As := [.ref a_t_now, .int x1]) (rest := []) (st1 := [.int u5.1]) S hK hA Wd (c_X10_lead l D N cI cB cZ cM cJ cK 564 a_t a_t_text a_t_corners a_t_streets a_t_ends a_t_time a_t_leaders a_t_home a_t_feet a_t_far a_t_now a_t_isKept a_t_tried a_t_row a_t_who a_t_then a_t_best a_t_seenAs a_t_seenAt a_t_plan a_t_now t_trace t_typed t_at t_start t_sort t_value t_fault t_rowLong t_homes t_bestValue t_seen t_planMany t_streets t_ends t_time t_home t_feet t_far u4 x1) (cwV 2 S.2.2.2.2 gX10_leads_X10_lead rfl rfl rfl n_X10_lead ⟨Nat.le_of_ble_eq_true rfl, Nat.le_of_ble_eq_true rfl⟩) hu5 [0, 1, 2, 3, 5, 6, 7, 8] rfl rfl 0 10 rfl rfl rfl rfl rfl rfl rfl hl.1 rfl (Nat.le_of_ble_eq_true rfl) dX10_leads_37 ⟨Nat.zero_le _, Nat.zero_le _⟩ (fun H locs Wd => ?_)
      refine lv_pop S.1 S.2.1 dX10_leads_40 rfl ?_
      refine lv_aload_n S.1 S.2.1 dX10_leads_41 rfl (lv_at hl 0 rfl) ?_
      refine g_get (a := a_t) S hK Wd iX10_leads_X10 0 rfl rfl 16 rfl rfl kX10_leads_1 rfl dX10_leads_42 ?_
      refine lv_iconst (v := 0) S.1 S.2.1 dX10_leads_45 (by decide) ?_
      refine g_iald (a := a_t_now) S hK Wd 8 0 rfl rfl (show ¬ (((0 : Int32) < 0) ∨ 564 ≤ Int32.toNatClampNeg (0 : Int32)) from by decide) dX10_leads_46 ?_
      exact g_iret S Wd hr hlk dX10_leads_47 ((u5.2 (0 : Int32).toNatClampNeg), u5.2) hf rfl rfl
    · have hf := g_if hf c3
      refine lv_bipush (v := (-2)) S.1 S.2.1 dX10_leads_24 (by decide) ?_
      exact g_iret S Wd hr hlk dX10_leads_26 ((-2 : Int32), t_now) hf rfl rfl
  · have hf := g_if hf c2
    refine lv_iconst (v := (-1)) S.1 S.2.1 dX10_leads_8 (by decide) ?_
    exact g_iret S Wd hr hlk dX10_leads_9 ((-1 : Int32), t_now) hf rfl rfl
def wX10_shuts (cI cB cZ cM cJ cK : ClassId) (a_t a_t_text a_t_corners a_t_streets a_t_ends a_t_time a_t_leaders a_t_home a_t_feet a_t_far a_t_now a_t_isKept a_t_tried a_t_row a_t_who a_t_then a_t_best a_t_seenAs a_t_seenAt a_t_plan : Nat) (t_trace : Int64) (t_typed t_at t_start t_sort t_value t_fault t_rowLong t_homes t_bestValue t_seen t_planMany : Int32) (t_streets t_now : Nat → Int32) : List va_W := [[(a_t, .inr (10, [.long t_trace, .ref a_t_text, .int t_typed, .ref a_t_corners, .ref a_t_streets, .ref a_t_ends, .ref a_t_time, .ref a_t_leaders, .ref a_t_home, .ref a_t_feet, .int t_at, .int t_start, .int t_sort, .int t_value, .int t_fault, .ref a_t_far, .ref a_t_now, .ref a_t_isKept, .ref a_t_tried, .ref a_t_row, .int t_rowLong, .ref a_t_who, .ref a_t_then, .int t_homes, .ref a_t_best, .int t_bestValue, .ref a_t_seenAs, .ref a_t_seenAt, .int t_seen, .ref a_t_plan, .int t_planMany]))], [(a_t_streets, .inl (cI, 2, .inl t_streets))], [(a_t_now, .inl (cI, 564, .inl t_now))]]
def rmX10_shuts : Room := { frames := 2, cells := 0, slots := 0, locals := 43 }
theorem kX10_shuts_1 : Cond.fieldLink RX10 38 "FeastMarchModel" "now" "[I" ∈ wsX10_shuts := List.mem_of_getElem? (i := 1) rfl
theorem iX10_shuts_X10 : ∀ w ∈ wsX100, w ∈ wsX10_shuts := fun _ h => List.mem_cons_of_mem _ (List.mem_append_right _ h)
theorem n_X10_shuts : yX10_shuts.cls = RX10 ∧ yX10_shuts.cls ≠ "java/lang/invoke/MethodHandle" ∧ yX10_shuts.cls ≠ "java/lang/invoke/VarHandle" ∧ (parseMethodDescriptor yX10_shuts.desc).map (fun d => d.parameters.length) = some 2 := by decide +kernel
set_option maxHeartbeats 4000000 in
set_option maxRecDepth 100000 in
theorem c_X10_shuts (l : Launch) (D : va_G) (N : Nat) (cI cB cZ cM cJ cK : ClassId) (a_t a_t_text a_t_corners a_t_streets a_t_ends a_t_time a_t_leaders a_t_home a_t_feet a_t_far a_t_now a_t_isKept a_t_tried a_t_row a_t_who a_t_then a_t_best a_t_seenAs a_t_seenAt a_t_plan : Nat) (t_trace : Int64) (t_typed t_at t_start t_sort t_value t_fault t_rowLong t_homes t_bestValue t_seen t_planMany : Int32) (t_streets t_now : Nat → Int32) (x1 x2 : Int32) : gM l yX10_shuts wsX10_shuts rmX10_shuts D (gT cI cB cZ cM cJ cK) (wX10_shuts cI cB cZ cM cJ cK  a_t a_t_text a_t_corners a_t_streets a_t_ends a_t_time a_t_leaders a_t_home a_t_feet a_t_far a_t_now a_t_isKept a_t_tried a_t_row a_t_who a_t_then a_t_best a_t_seenAs a_t_seenAt a_t_plan t_trace t_typed t_at t_start t_sort t_value t_fault t_rowLong t_homes t_bestValue t_seen t_planMany t_streets t_now) [.ref a_t, .int x1, .int x2] (fX10_shuts N t_streets t_now x1 x2) (fun _u : Int32 × (Nat → Int32) => some (.int _u.1)) (fun _u : Int32 × (Nat → Int32) => (wX10_shuts cI cB cZ cM cJ cK  a_t a_t_text a_t_corners a_t_streets a_t_ends a_t_time a_t_leaders a_t_home a_t_feet a_t_far a_t_now a_t_isKept a_t_tried a_t_row a_t_who a_t_then a_t_best a_t_seenAs a_t_seenAt a_t_plan t_trace t_typed t_at t_start t_sort t_value t_fault t_rowLong t_homes t_bestValue t_seen t_planMany t_streets _u.2)) := by
  refine g_start (cc := cX10_shuts) (maxL := 3) (ret := (some .int)) (by decide) rfl (Nat.le_of_ble_eq_true rfl) ?_
  intro F hf hF p e s m below meth c A ls S hK hA Wd hr hlk hnm hl
  refine lv_aload_n S.1 S.2.1 dX10_shuts_0 rfl (lv_at hl 0 rfl) ?_
  refine lv_iload_n S.1 S.2.1 dX10_shuts_1 rfl (lv_at hl 1 rfl) ?_
  obtain ⟨u1, hu1, hf⟩ := g_bind hF hf
  refine g_callV (ws' := (wX10_shuts cI cB cZ cM cJ cK  a_t a_t_text a_t_corners a_t_streets a_t_ends a_t_time a_t_leaders a_t_home a_t_feet a_t_far a_t_now a_t_isKept a_t_tried a_t_row a_t_who a_t_then a_t_best a_t_seenAs a_t_seenAt a_t_plan t_trace t_typed t_at t_start t_sort t_value t_fault t_rowLong t_homes t_bestValue t_seen t_planMany t_streets t_now)) (As := [.int x1]) (rest := []) (st1 := [.int u1]) S hK hA Wd (c_X10_isStreet l D N cI cB cZ cM cJ cK a_t a_t_text a_t_corners a_t_streets a_t_ends a_t_time a_t_leaders a_t_home a_t_feet a_t_far a_t_now a_t_isKept a_t_tried a_t_row a_t_who a_t_then a_t_best a_t_seenAs a_t_seenAt a_t_plan t_trace t_typed t_at t_start t_sort t_value t_fault t_rowLong t_homes t_bestValue t_seen t_planMany t_streets x1) (cwV 1 S.2.2.2.2 gX10_shuts_X10_isStreet rfl rfl rfl n_X10_isStreet ⟨Nat.le_of_ble_eq_true rfl, Nat.le_of_ble_eq_true rfl⟩) hu1 [0, 1] rfl rfl 0 10 rfl rfl rfl rfl rfl rfl rfl hl.1 rfl (Nat.le_of_ble_eq_true rfl) dX10_shuts_2 ⟨Nat.zero_le _, Nat.zero_le _⟩ (fun H locs Wd => ?_)
  refine lv_if_eq (tgt := 17) S.1 S.2.1 dX10_shuts_5 rfl (fun c2 => ?_) (fun c2 => ?_)
  · have hf := g_if hf c2
    refine lv_iconst (v := (-1)) S.1 S.2.1 dX10_shuts_17 (by decide) ?_
    exact g_iret S Wd hr hlk dX10_shuts_18 ((-1 : Int32), t_now) hf rfl rfl
  · have hf := g_ifn hf c2
    refine lv_iload_n S.1 S.2.1 dX10_shuts_8 rfl (lv_at hl 2 rfl) ?_
    refine lv_iconst (v := 0) S.1 S.2.1 dX10_shuts_9 (by decide) ?_
    refine lv_iconst (v := 1) S.1 S.2.1 dX10_shuts_10 (by decide) ?_
    obtain ⟨u3, hu3, hf⟩ := g_bind hF hf
    refine g_callS (ws' := (wX10_shuts cI cB cZ cM cJ cK  a_t a_t_text a_t_corners a_t_streets a_t_ends a_t_time a_t_leaders a_t_home a_t_feet a_t_far a_t_now a_t_isKept a_t_tried a_t_row a_t_who a_t_then a_t_best a_t_seenAs a_t_seenAt a_t_plan t_trace t_typed t_at t_start t_sort t_value t_fault t_rowLong t_homes t_bestValue t_seen t_planMany t_streets t_now)) (As := [.int x2, .int (0 : Int32), .int (1 : Int32)]) (rest := []) (st1 := [.int u3]) S hK hA Wd (c_X10_in l D N cI cB cZ cM cJ cK x2 (0 : Int32) (1 : Int32)) (va_cwS 3 S.2.2.2.2 gX10_shuts_X10_in rfl rfl rfl n_X10_in ⟨Nat.le_of_ble_eq_true rfl, Nat.le_of_ble_eq_true rfl⟩) hu3 [] rfl rfl rfl rfl rfl rfl hl.1 rfl (Nat.le_of_ble_eq_true rfl) dX10_shuts_11 ⟨Nat.zero_le _, Nat.zero_le _⟩ (fun H locs Wd => ?_)
    refine lv_if_ne (tgt := 19) S.1 S.2.1 dX10_shuts_14 rfl (fun c4 => ?_) (fun c4 => ?_)
    · have hf := g_ifn hf c4
      refine lv_aload_n S.1 S.2.1 dX10_shuts_19 rfl (lv_at hl 0 rfl) ?_
      refine g_get (a := a_t) S hK Wd iX10_shuts_X10 0 rfl rfl 16 rfl rfl kX10_shuts_1 rfl dX10_shuts_20 ?_
      refine lv_iconst (v := 4) S.1 S.2.1 dX10_shuts_23 (by decide) ?_
      refine g_iald (a := a_t_now) S hK Wd 2 0 rfl rfl (show ¬ (((4 : Int32) < 0) ∨ 564 ≤ Int32.toNatClampNeg (4 : Int32)) from by decide) dX10_shuts_24 ?_
      refine lv_iload_n S.1 S.2.1 dX10_shuts_25 rfl (lv_at hl 1 rfl) ?_
      refine lv_ishr S.1 S.2.1 dX10_shuts_26 ?_
      refine lv_iconst (v := 1) S.1 S.2.1 dX10_shuts_27 (by decide) ?_
      refine lv_iand S.1 S.2.1 dX10_shuts_28 ?_
      refine lv_iload_n S.1 S.2.1 dX10_shuts_29 rfl (lv_at hl 2 rfl) ?_
      refine lv_icmp_ne (tgt := 36) S.1 S.2.1 dX10_shuts_30 rfl (fun c5 => ?_) (fun c5 => ?_)
      · have hf := g_ifn hf c5
        refine lv_aload_n S.1 S.2.1 dX10_shuts_36 rfl (lv_at hl 0 rfl) ?_
        obtain ⟨u6, hu6, hf⟩ := g_bind hF hf
        refine g_callV (ws' := (wX10_shuts cI cB cZ cM cJ cK  a_t a_t_text a_t_corners a_t_streets a_t_ends a_t_time a_t_leaders a_t_home a_t_feet a_t_far a_t_now a_t_isKept a_t_tried a_t_row a_t_who a_t_then a_t_best a_t_seenAs a_t_seenAt a_t_plan t_trace t_typed t_at t_start t_sort t_value t_fault t_rowLong t_homes t_bestValue t_seen t_planMany t_streets u6)) (As := []) (rest := []) (st1 := []) S hK hA Wd (c_X10_know l D N cI cB cZ cM cJ cK a_t a_t_text a_t_corners a_t_streets a_t_ends a_t_time a_t_leaders a_t_home a_t_feet a_t_far a_t_now a_t_isKept a_t_tried a_t_row a_t_who a_t_then a_t_best a_t_seenAs a_t_seenAt a_t_plan t_trace t_typed t_at t_start t_sort t_value t_fault t_rowLong t_homes t_bestValue t_seen t_planMany t_now) (cwV 0 S.2.2.2.2 gX10_shuts_X10_know rfl rfl rfl n_X10_know ⟨Nat.le_of_ble_eq_true rfl, Nat.le_of_ble_eq_true rfl⟩) hu6 [0, 2] rfl rfl 0 10 rfl rfl rfl rfl rfl rfl rfl hl.1 rfl (Nat.le_of_ble_eq_true rfl) dX10_shuts_37 ⟨Nat.zero_le _, Nat.zero_le _⟩ (fun H locs Wd => ?_)
        refine lv_aload_n S.1 S.2.1 dX10_shuts_40 rfl (lv_at hl 0 rfl) ?_
        refine g_get (a := a_t) S hK Wd iX10_shuts_X10 0 rfl rfl 16 rfl rfl kX10_shuts_1 rfl dX10_shuts_41 ?_
        refine lv_iconst (v := 4) S.1 S.2.1 dX10_shuts_44 (by decide) ?_
        refine lv_dup2_11 S.1 S.2.1 dX10_shuts_45 rfl rfl ?_
        refine g_iald (a := a_t_now) S hK Wd 2 0 rfl rfl (show ¬ (((4 : Int32) < 0) ∨ 564 ≤ Int32.toNatClampNeg (4 : Int32)) from by decide) dX10_shuts_46 ?_
        refine lv_iconst (v := 1) S.1 S.2.1 dX10_shuts_47 (by decide) ?_
        refine lv_iload_n S.1 S.2.1 dX10_shuts_48 rfl (lv_at hl 1 rfl) ?_
        refine lv_ishl S.1 S.2.1 dX10_shuts_49 ?_
        refine lv_ixor S.1 S.2.1 dX10_shuts_50 ?_
        refine g_iast (a := a_t_now) (ws' := (wX10_shuts cI cB cZ cM cJ cK  a_t a_t_text a_t_corners a_t_streets a_t_ends a_t_time a_t_leaders a_t_home a_t_feet a_t_far a_t_now a_t_isKept a_t_tried a_t_row a_t_who a_t_then a_t_best a_t_seenAs a_t_seenAt a_t_plan t_trace t_typed t_at t_start t_sort t_value t_fault t_rowLong t_homes t_bestValue t_seen t_planMany t_streets (upd u6 (4 : Int32).toNatClampNeg ((u6 (4 : Int32).toNatClampNeg) ^^^ ((1 : Int32) <<< (x1 &&& 31)))))) S hK Wd 2 0 rfl rfl (show ¬ (((4 : Int32) < 0) ∨ 564 ≤ Int32.toNatClampNeg (4 : Int32)) from by decide) dX10_shuts_51 rfl (fun H locs Wd => ?_)
        refine lv_aload_n S.1 S.2.1 dX10_shuts_52 rfl (lv_at hl 0 rfl) ?_
        refine g_get (a := a_t) S hK Wd iX10_shuts_X10 0 rfl rfl 16 rfl rfl kX10_shuts_1 rfl dX10_shuts_53 ?_
        refine lv_iconst (v := 4) S.1 S.2.1 dX10_shuts_56 (by decide) ?_
        refine g_iald (a := a_t_now) S hK Wd 2 0 rfl rfl (show ¬ (((4 : Int32) < 0) ∨ 564 ≤ Int32.toNatClampNeg (4 : Int32)) from by decide) dX10_shuts_57 ?_
        obtain ⟨u7, hu7, hf⟩ := g_bind hF hf
        refine g_callS (ws' := (wX10_shuts cI cB cZ cM cJ cK  a_t a_t_text a_t_corners a_t_streets a_t_ends a_t_time a_t_leaders a_t_home a_t_feet a_t_far a_t_now a_t_isKept a_t_tried a_t_row a_t_who a_t_then a_t_best a_t_seenAs a_t_seenAt a_t_plan t_trace t_typed t_at t_start t_sort t_value t_fault t_rowLong t_homes t_bestValue t_seen t_planMany t_streets (upd u6 (4 : Int32).toNatClampNeg ((u6 (4 : Int32).toNatClampNeg) ^^^ ((1 : Int32) <<< (x1 &&& 31)))))) (As := [.int ((upd u6 (4 : Int32).toNatClampNeg ((u6 (4 : Int32).toNatClampNeg) ^^^ ((1 : Int32) <<< (x1 &&& 31)))) (4 : Int32).toNatClampNeg)]) (rest := []) (st1 := [.int u7]) S hK hA Wd (c_X10_manyOf l D N cI cB cZ cM cJ cK ((upd u6 (4 : Int32).toNatClampNeg ((u6 (4 : Int32).toNatClampNeg) ^^^ ((1 : Int32) <<< (x1 &&& 31)))) (4 : Int32).toNatClampNeg)) (va_cwS 1 S.2.2.2.2 gX10_shuts_X10_manyOf rfl rfl rfl n_X10_manyOf ⟨Nat.le_of_ble_eq_true rfl, Nat.le_of_ble_eq_true rfl⟩) hu7 [] rfl rfl rfl rfl rfl rfl hl.1 rfl (Nat.le_of_ble_eq_true rfl) dX10_shuts_58 ⟨Nat.zero_le _, Nat.zero_le _⟩ (fun H locs Wd => ?_)
        exact g_iret S Wd hr hlk dX10_shuts_61 (u7, (upd u6 (4 : Int32).toNatClampNeg ((u6 (4 : Int32).toNatClampNeg) ^^^ ((1 : Int32) <<< (x1 &&& 31))))) hf rfl rfl
      · have hf := g_if hf c5
        refine lv_bipush (v := (-2)) S.1 S.2.1 dX10_shuts_33 (by decide) ?_
        exact g_iret S Wd hr hlk dX10_shuts_35 ((-2 : Int32), t_now) hf rfl rfl
    · have hf := g_if hf c4
      refine lv_iconst (v := (-1)) S.1 S.2.1 dX10_shuts_17 (by decide) ?_
      exact g_iret S Wd hr hlk dX10_shuts_18 ((-1 : Int32), t_now) hf rfl rfl
def wX10_undo (cI cB cZ cM cJ cK : ClassId) (a_t a_t_text a_t_corners a_t_streets a_t_ends a_t_time a_t_leaders a_t_home a_t_feet a_t_far a_t_now a_t_isKept a_t_tried a_t_row a_t_who a_t_then a_t_best a_t_seenAs a_t_seenAt a_t_plan : Nat) (t_trace : Int64) (t_typed t_at t_start t_sort t_value t_fault t_rowLong t_homes t_bestValue t_seen t_planMany : Int32) (t_now : Nat → Int32) : List va_W := [[(a_t, .inr (10, [.long t_trace, .ref a_t_text, .int t_typed, .ref a_t_corners, .ref a_t_streets, .ref a_t_ends, .ref a_t_time, .ref a_t_leaders, .ref a_t_home, .ref a_t_feet, .int t_at, .int t_start, .int t_sort, .int t_value, .int t_fault, .ref a_t_far, .ref a_t_now, .ref a_t_isKept, .ref a_t_tried, .ref a_t_row, .int t_rowLong, .ref a_t_who, .ref a_t_then, .int t_homes, .ref a_t_best, .int t_bestValue, .ref a_t_seenAs, .ref a_t_seenAt, .int t_seen, .ref a_t_plan, .int t_planMany]))], [(a_t_now, .inl (cI, 564, .inl t_now))]]
def rmX10_undo : Room := { frames := 0, cells := 0, slots := 0, locals := 0 }
theorem kX10_undo_1 : Cond.fieldLink RX10 38 "FeastMarchModel" "now" "[I" ∈ wsX10_undo := List.mem_of_getElem? (i := 1) rfl
theorem iX10_undo_X10 : ∀ w ∈ wsX100, w ∈ wsX10_undo := fun _ h => List.mem_cons_of_mem _ (List.mem_append_right _ h)
theorem n_X10_undo : yX10_undo.cls = RX10 ∧ yX10_undo.cls ≠ "java/lang/invoke/MethodHandle" ∧ yX10_undo.cls ≠ "java/lang/invoke/VarHandle" ∧ (parseMethodDescriptor yX10_undo.desc).map (fun d => d.parameters.length) = some 0 := by decide +kernel
set_option maxHeartbeats 4000000 in
set_option maxRecDepth 100000 in
theorem c_X10_undo (l : Launch) (D : va_G) (N : Nat) (cI cB cZ cM cJ cK : ClassId) (a_t a_t_text a_t_corners a_t_streets a_t_ends a_t_time a_t_leaders a_t_home a_t_feet a_t_far a_t_now a_t_isKept a_t_tried a_t_row a_t_who a_t_then a_t_best a_t_seenAs a_t_seenAt a_t_plan : Nat) (t_trace : Int64) (t_typed t_at t_start t_sort t_value t_fault t_rowLong t_homes t_bestValue t_seen t_planMany : Int32) (t_now : Nat → Int32) : gM l yX10_undo wsX10_undo rmX10_undo D (gT cI cB cZ cM cJ cK) (wX10_undo cI cB cZ cM cJ cK  a_t a_t_text a_t_corners a_t_streets a_t_ends a_t_time a_t_leaders a_t_home a_t_feet a_t_far a_t_now a_t_isKept a_t_tried a_t_row a_t_who a_t_then a_t_best a_t_seenAs a_t_seenAt a_t_plan t_trace t_typed t_at t_start t_sort t_value t_fault t_rowLong t_homes t_bestValue t_seen t_planMany t_now) [.ref a_t] (fX10_undo N t_now) (fun _u : Int32 × (Nat → Int32) => some (.int _u.1)) (fun _u : Int32 × (Nat → Int32) => (wX10_undo cI cB cZ cM cJ cK  a_t a_t_text a_t_corners a_t_streets a_t_ends a_t_time a_t_leaders a_t_home a_t_feet a_t_far a_t_now a_t_isKept a_t_tried a_t_row a_t_who a_t_then a_t_best a_t_seenAs a_t_seenAt a_t_plan t_trace t_typed t_at t_start t_sort t_value t_fault t_rowLong t_homes t_bestValue t_seen t_planMany _u.2)) := by
  refine g_start (cc := cX10_undo) (maxL := 2) (ret := (some .int)) (by decide) rfl (Nat.le_of_ble_eq_true rfl) ?_
  intro F hf hF p e s m below meth c A ls S hK hA Wd hr hlk hnm hl
  have b26 : ∀ (n : Nat), ∀ (t_now : Nat → Int32) (x1 : Int32) (H1 : Heap) (locs1 : List Loc) (ls1 : Array Slot), gw D A s.heap (wX10_undo cI cB cZ cM cJ cK  a_t a_t_text a_t_corners a_t_streets a_t_ends a_t_time a_t_leaders a_t_home a_t_feet a_t_far a_t_now a_t_isKept a_t_tried a_t_row a_t_who a_t_then a_t_best a_t_seenAs a_t_seenAt a_t_plan t_trace t_typed t_at t_start t_sort t_value t_fault t_rowLong t_homes t_bestValue t_seen t_planMany t_now) H1 locs1 → lv_has ls1 2 [(0, .ref a_t), (1, .int x1)] → F = fX10_undo_b26 N  n t_now x1 → W p l e rmX10_undo s m [.ref a_t].toArray below meth c H1 locs1 0 0 (MQ below (gQ F (fun _u : Int32 × (Nat → Int32) => some (.int _u.1)) (fun _u : Int32 × (Nat → Int32) => (wX10_undo cI cB cZ cM cJ cK  a_t a_t_text a_t_corners a_t_streets a_t_ends a_t_time a_t_leaders a_t_home a_t_feet a_t_far a_t_now a_t_isKept a_t_tried a_t_row a_t_who a_t_then a_t_best a_t_seenAs a_t_seenAt a_t_plan t_trace t_typed t_at t_start t_sort t_value t_fault t_rowLong t_homes t_bestValue t_seen t_planMany _u.2)) D A) [.ref a_t].toArray s 0 0 A) (F0 m 26 ls1 []) := by
    intro  n
    induction n with
    | zero => intro t_now x1 H locs ls Wd hl hf; exact absurd hf hF
    | succ n ih =>
      intro t_now x1 H locs ls Wd hl hf
      refine lv_iload_n S.1 S.2.1 dX10_undo_26 rfl (lv_at hl 1 rfl) ?_
      refine lv_bipush (v := 17) S.1 S.2.1 dX10_undo_27 (by decide) ?_
      refine lv_icmp_ge (tgt := 64) S.1 S.2.1 dX10_undo_29 rfl (fun c2 => ?_) (fun c2 => ?_)
      · have hf := g_if hf c2
        refine lv_aload_n S.1 S.2.1 dX10_undo_64 rfl (lv_at hl 0 rfl) ?_
        refine g_get (a := a_t) S hK Wd iX10_undo_X10 0 rfl rfl 16 rfl rfl kX10_undo_1 rfl dX10_undo_65 ?_
        refine lv_bipush (v := 17) S.1 S.2.1 dX10_undo_68 (by decide) ?_
        refine g_iald (a := a_t_now) S hK Wd 1 0 rfl rfl (show ¬ (((17 : Int32) < 0) ∨ 564 ≤ Int32.toNatClampNeg (17 : Int32)) from by decide) dX10_undo_70 ?_
        exact g_iret S Wd hr hlk dX10_undo_71 ((t_now (17 : Int32).toNatClampNeg), t_now) hf rfl rfl
      · have hf := g_ifn hf c2
        refine lv_aload_n S.1 S.2.1 dX10_undo_32 rfl (lv_at hl 0 rfl) ?_
        refine g_get (a := a_t) S hK Wd iX10_undo_X10 0 rfl rfl 16 rfl rfl kX10_undo_1 rfl dX10_undo_33 ?_
        refine lv_iload_n S.1 S.2.1 dX10_undo_36 rfl (lv_at hl 1 rfl) ?_
        refine lv_aload_n S.1 S.2.1 dX10_undo_37 rfl (lv_at hl 0 rfl) ?_
        refine g_get (a := a_t) S hK Wd iX10_undo_X10 0 rfl rfl 16 rfl rfl kX10_undo_1 rfl dX10_undo_38 ?_
        refine lv_bipush (v := 18) S.1 S.2.1 dX10_undo_41 (by decide) ?_
        refine lv_bipush (v := 17) S.1 S.2.1 dX10_undo_43 (by decide) ?_
        refine lv_aload_n S.1 S.2.1 dX10_undo_45 rfl (lv_at hl 0 rfl) ?_
        refine g_get (a := a_t) S hK Wd iX10_undo_X10 0 rfl rfl 16 rfl rfl kX10_undo_1 rfl dX10_undo_46 ?_
        refine lv_bipush (v := 17) S.1 S.2.1 dX10_undo_49 (by decide) ?_
        refine g_iald (a := a_t_now) S hK Wd 1 0 rfl rfl (show ¬ (((17 : Int32) < 0) ∨ 564 ≤ Int32.toNatClampNeg (17 : Int32)) from by decide) dX10_undo_51 ?_
        refine lv_imul S.1 S.2.1 dX10_undo_52 ?_
        refine lv_iadd S.1 S.2.1 dX10_undo_53 ?_
        refine lv_iload_n S.1 S.2.1 dX10_undo_54 rfl (lv_at hl 1 rfl) ?_
        refine lv_iadd S.1 S.2.1 dX10_undo_55 ?_
        obtain ⟨h3, hf⟩ := g_gi hF hf
        refine g_iald (a := a_t_now) S hK Wd 1 0 rfl rfl h3 dX10_undo_56 ?_
        obtain ⟨h4, hf⟩ := g_gi hF hf
        refine g_iast (a := a_t_now) (ws' := (wX10_undo cI cB cZ cM cJ cK  a_t a_t_text a_t_corners a_t_streets a_t_ends a_t_time a_t_leaders a_t_home a_t_feet a_t_far a_t_now a_t_isKept a_t_tried a_t_row a_t_who a_t_then a_t_best a_t_seenAs a_t_seenAt a_t_plan t_trace t_typed t_at t_start t_sort t_value t_fault t_rowLong t_homes t_bestValue t_seen t_planMany (upd t_now x1.toNatClampNeg (t_now (((18 : Int32) + ((17 : Int32) * (t_now (17 : Int32).toNatClampNeg))) + x1).toNatClampNeg)))) S hK Wd 1 0 rfl rfl h4 dX10_undo_57 rfl (fun H locs Wd => ?_)
        refine lv_iinc (v := (x1 + (1 : Int32))) (lv' := [(1, .int (x1 + (1 : Int32))), (0, .ref a_t)]) S.1 S.2.1 dX10_undo_58 hl (k := 1) rfl rfl (by decide) rfl (fun ls hl => ?_)
        refine lv_goto (tgt := 26) S.1 S.2.1 dX10_undo_61 rfl ?_
        exact ih (upd t_now x1.toNatClampNeg (t_now (((18 : Int32) + ((17 : Int32) * (t_now (17 : Int32).toNatClampNeg))) + x1).toNatClampNeg)) (x1 + (1 : Int32)) _ _ _ Wd (lv_sub hl [1, 0] rfl) hf
  refine lv_aload_n S.1 S.2.1 dX10_undo_0 rfl (lv_at hl 0 rfl) ?_
  refine g_get (a := a_t) S hK Wd iX10_undo_X10 0 rfl rfl 16 rfl rfl kX10_undo_1 rfl dX10_undo_1 ?_
  refine lv_bipush (v := 17) S.1 S.2.1 dX10_undo_4 (by decide) ?_
  refine g_iald (a := a_t_now) S hK Wd 1 0 rfl rfl (show ¬ (((17 : Int32) < 0) ∨ 564 ≤ Int32.toNatClampNeg (17 : Int32)) from by decide) dX10_undo_6 ?_
  refine lv_if_ne (tgt := 13) S.1 S.2.1 dX10_undo_7 rfl (fun c1 => ?_) (fun c1 => ?_)
  · have hf := g_ifn hf c1
    refine lv_aload_n S.1 S.2.1 dX10_undo_13 rfl (lv_at hl 0 rfl) ?_
    refine g_get (a := a_t) S hK Wd iX10_undo_X10 0 rfl rfl 16 rfl rfl kX10_undo_1 rfl dX10_undo_14 ?_
    refine lv_bipush (v := 17) S.1 S.2.1 dX10_undo_17 (by decide) ?_
    refine lv_dup2_11 S.1 S.2.1 dX10_undo_19 rfl rfl ?_
    refine g_iald (a := a_t_now) S hK Wd 1 0 rfl rfl (show ¬ (((17 : Int32) < 0) ∨ 564 ≤ Int32.toNatClampNeg (17 : Int32)) from by decide) dX10_undo_20 ?_
    refine lv_iconst (v := 1) S.1 S.2.1 dX10_undo_21 (by decide) ?_
    refine lv_isub S.1 S.2.1 dX10_undo_22 ?_
    refine g_iast (a := a_t_now) (ws' := (wX10_undo cI cB cZ cM cJ cK  a_t a_t_text a_t_corners a_t_streets a_t_ends a_t_time a_t_leaders a_t_home a_t_feet a_t_far a_t_now a_t_isKept a_t_tried a_t_row a_t_who a_t_then a_t_best a_t_seenAs a_t_seenAt a_t_plan t_trace t_typed t_at t_start t_sort t_value t_fault t_rowLong t_homes t_bestValue t_seen t_planMany (upd t_now (17 : Int32).toNatClampNeg ((t_now (17 : Int32).toNatClampNeg) - (1 : Int32))))) S hK Wd 1 0 rfl rfl (show ¬ (((17 : Int32) < 0) ∨ 564 ≤ Int32.toNatClampNeg (17 : Int32)) from by decide) dX10_undo_23 rfl (fun H locs Wd => ?_)
    refine lv_iconst (v := 0) S.1 S.2.1 dX10_undo_24 (by decide) ?_
    refine lv_istore_n (lv' := [(1, .int (0 : Int32)), (0, .ref a_t)]) S.1 S.2.1 dX10_undo_25 rfl hl (by decide) rfl (fun ls hl => ?_)
    exact b26  N (upd t_now (17 : Int32).toNatClampNeg ((t_now (17 : Int32).toNatClampNeg) - (1 : Int32))) (0 : Int32) _ _ _ Wd (lv_sub hl [1, 0] rfl) hf
  · have hf := g_if hf c1
    refine lv_bipush (v := (-2)) S.1 S.2.1 dX10_undo_10 (by decide) ?_
    exact g_iret S Wd hr hlk dX10_undo_12 ((-2 : Int32), t_now) hf rfl rfl
def wX10_now (cI cB cZ cM cJ cK : ClassId) (a_t a_t_text a_t_corners a_t_streets a_t_ends a_t_time a_t_leaders a_t_home a_t_feet a_t_far a_t_now a_t_isKept a_t_tried a_t_row a_t_who a_t_then a_t_best a_t_seenAs a_t_seenAt a_t_plan : Nat) (t_trace : Int64) (t_typed t_at t_start t_sort t_value t_fault t_rowLong t_homes t_bestValue t_seen t_planMany : Int32) (t_corners t_streets t_now : Nat → Int32) : List va_W := [[(a_t, .inr (10, [.long t_trace, .ref a_t_text, .int t_typed, .ref a_t_corners, .ref a_t_streets, .ref a_t_ends, .ref a_t_time, .ref a_t_leaders, .ref a_t_home, .ref a_t_feet, .int t_at, .int t_start, .int t_sort, .int t_value, .int t_fault, .ref a_t_far, .ref a_t_now, .ref a_t_isKept, .ref a_t_tried, .ref a_t_row, .int t_rowLong, .ref a_t_who, .ref a_t_then, .int t_homes, .ref a_t_best, .int t_bestValue, .ref a_t_seenAs, .ref a_t_seenAt, .int t_seen, .ref a_t_plan, .int t_planMany]))], [(a_t_corners, .inl (cI, 2, .inl t_corners))], [(a_t_streets, .inl (cI, 2, .inl t_streets))], [(a_t_now, .inl (cI, 564, .inl t_now))]]
def rmX10_now : Room := { frames := 1, cells := 0, slots := 0, locals := 23 }
theorem kX10_now_1 : Cond.fieldLink RX10 13 "FeastMarchModel" "corners" "[I" ∈ wsX10_now := List.mem_of_getElem? (i := 1) rfl
theorem kX10_now_2 : Cond.fieldLink RX10 38 "FeastMarchModel" "now" "[I" ∈ wsX10_now := List.mem_of_getElem? (i := 2) rfl
theorem iX10_now_X10 : ∀ w ∈ wsX100, w ∈ wsX10_now := fun _ h => List.mem_cons_of_mem _ (List.mem_append_right _ h)
theorem n_X10_now : yX10_now.cls = RX10 ∧ yX10_now.cls ≠ "java/lang/invoke/MethodHandle" ∧ yX10_now.cls ≠ "java/lang/invoke/VarHandle" ∧ (parseMethodDescriptor yX10_now.desc).map (fun d => d.parameters.length) = some 1 := by decide +kernel
set_option maxHeartbeats 4000000 in
set_option maxRecDepth 100000 in
theorem c_X10_now (l : Launch) (D : va_G) (N : Nat) (cI cB cZ cM cJ cK : ClassId) (a_t a_t_text a_t_corners a_t_streets a_t_ends a_t_time a_t_leaders a_t_home a_t_feet a_t_far a_t_now a_t_isKept a_t_tried a_t_row a_t_who a_t_then a_t_best a_t_seenAs a_t_seenAt a_t_plan : Nat) (t_trace : Int64) (t_typed t_at t_start t_sort t_value t_fault t_rowLong t_homes t_bestValue t_seen t_planMany : Int32) (t_corners t_streets t_now : Nat → Int32) (x1 : Int32) : gM l yX10_now wsX10_now rmX10_now D (gT cI cB cZ cM cJ cK) (wX10_now cI cB cZ cM cJ cK  a_t a_t_text a_t_corners a_t_streets a_t_ends a_t_time a_t_leaders a_t_home a_t_feet a_t_far a_t_now a_t_isKept a_t_tried a_t_row a_t_who a_t_then a_t_best a_t_seenAs a_t_seenAt a_t_plan t_trace t_typed t_at t_start t_sort t_value t_fault t_rowLong t_homes t_bestValue t_seen t_planMany t_corners t_streets t_now) [.ref a_t, .int x1] (fX10_now N t_corners t_streets t_now x1) (fun _u : Int32 => some (.int _u)) (fun _u : Int32 => (wX10_now cI cB cZ cM cJ cK  a_t a_t_text a_t_corners a_t_streets a_t_ends a_t_time a_t_leaders a_t_home a_t_feet a_t_far a_t_now a_t_isKept a_t_tried a_t_row a_t_who a_t_then a_t_best a_t_seenAs a_t_seenAt a_t_plan t_trace t_typed t_at t_start t_sort t_value t_fault t_rowLong t_homes t_bestValue t_seen t_planMany t_corners t_streets t_now)) := by
  refine g_start (cc := cX10_now) (maxL := 2) (ret := (some .int)) (by decide) rfl (Nat.le_of_ble_eq_true rfl) ?_
  intro F hf hF p e s m below meth c A ls S hK hA Wd hr hlk hnm hl
  refine lv_iload_n S.1 S.2.1 dX10_now_0 rfl (lv_at hl 1 rfl) ?_
  by_cases c1 : x1 = (0 : Int32)
  · have hf := g_if hf c1
    refine g_tabIn (tgt := 40) (off := 39) S c1 dX10_now_1 (by decide) (by decide) (by decide) rfl ?_
    refine lv_aload_n S.1 S.2.1 dX10_now_40 rfl (lv_at hl 0 rfl) ?_
    refine g_get (a := a_t) S hK Wd iX10_now_X10 0 rfl rfl 3 rfl rfl kX10_now_1 rfl dX10_now_41 ?_
    refine lv_iconst (v := 0) S.1 S.2.1 dX10_now_44 (by decide) ?_
    refine g_iald (a := a_t_corners) S hK Wd 1 0 rfl rfl (show ¬ (((0 : Int32) < 0) ∨ 2 ≤ Int32.toNatClampNeg (0 : Int32)) from by decide) dX10_now_45 ?_
    refine lv_if_ne (tgt := 54) S.1 S.2.1 dX10_now_46 rfl (fun c2 => ?_) (fun c2 => ?_)
    · have hf := g_ifn hf c2
      refine lv_aload_n S.1 S.2.1 dX10_now_54 rfl (lv_at hl 0 rfl) ?_
      refine g_get (a := a_t) S hK Wd iX10_now_X10 0 rfl rfl 16 rfl rfl kX10_now_2 rfl dX10_now_55 ?_
      refine lv_iconst (v := 0) S.1 S.2.1 dX10_now_58 (by decide) ?_
      refine g_iald (a := a_t_now) S hK Wd 3 0 rfl rfl (show ¬ (((0 : Int32) < 0) ∨ 564 ≤ Int32.toNatClampNeg (0 : Int32)) from by decide) dX10_now_59 ?_
      exact g_iret S Wd hr hlk dX10_now_60 (t_now (0 : Int32).toNatClampNeg) hf rfl rfl
    · have hf := g_if hf c2
      refine lv_bipush (v := (-9)) S.1 S.2.1 dX10_now_49 (by decide) ?_
      refine lv_goto (tgt := 60) S.1 S.2.1 dX10_now_51 rfl ?_
      exact g_iret S Wd hr hlk dX10_now_60 (-9 : Int32) hf rfl rfl
  have hf := g_ifn hf c1
  by_cases c3 : x1 = (1 : Int32)
  · have hf := g_if hf c3
    refine g_tabIn (tgt := 61) (off := 60) S c3 dX10_now_1 (by decide) (by decide) (by decide) rfl ?_
    refine lv_aload_n S.1 S.2.1 dX10_now_61 rfl (lv_at hl 0 rfl) ?_
    refine g_get (a := a_t) S hK Wd iX10_now_X10 0 rfl rfl 16 rfl rfl kX10_now_2 rfl dX10_now_62 ?_
    refine lv_iload_n S.1 S.2.1 dX10_now_65 rfl (lv_at hl 1 rfl) ?_
    obtain ⟨h4, hf⟩ := g_gi hF hf
    refine g_iald (a := a_t_now) S hK Wd 3 0 rfl rfl h4 dX10_now_66 ?_
    exact g_iret S Wd hr hlk dX10_now_67 (t_now x1.toNatClampNeg) hf rfl rfl
  have hf := g_ifn hf c3
  by_cases c5 : x1 = (2 : Int32)
  · have hf := g_if hf c5
    refine g_tabIn (tgt := 61) (off := 60) S c5 dX10_now_1 (by decide) (by decide) (by decide) rfl ?_
    refine lv_aload_n S.1 S.2.1 dX10_now_61 rfl (lv_at hl 0 rfl) ?_
    refine g_get (a := a_t) S hK Wd iX10_now_X10 0 rfl rfl 16 rfl rfl kX10_now_2 rfl dX10_now_62 ?_
    refine lv_iload_n S.1 S.2.1 dX10_now_65 rfl (lv_at hl 1 rfl) ?_
    obtain ⟨h6, hf⟩ := g_gi hF hf
    refine g_iald (a := a_t_now) S hK Wd 3 0 rfl rfl h6 dX10_now_66 ?_
    exact g_iret S Wd hr hlk dX10_now_67 (t_now x1.toNatClampNeg) hf rfl rfl
  have hf := g_ifn hf c5
  by_cases c7 : x1 = (3 : Int32)
  · have hf := g_if hf c7
    refine g_tabIn (tgt := 61) (off := 60) S c7 dX10_now_1 (by decide) (by decide) (by decide) rfl ?_
    refine lv_aload_n S.1 S.2.1 dX10_now_61 rfl (lv_at hl 0 rfl) ?_
    refine g_get (a := a_t) S hK Wd iX10_now_X10 0 rfl rfl 16 rfl rfl kX10_now_2 rfl dX10_now_62 ?_
    refine lv_iload_n S.1 S.2.1 dX10_now_65 rfl (lv_at hl 1 rfl) ?_
    obtain ⟨h8, hf⟩ := g_gi hF hf
    refine g_iald (a := a_t_now) S hK Wd 3 0 rfl rfl h8 dX10_now_66 ?_
    exact g_iret S Wd hr hlk dX10_now_67 (t_now x1.toNatClampNeg) hf rfl rfl
  have hf := g_ifn hf c7
  by_cases c9 : x1 = (4 : Int32)
  · have hf := g_if hf c9
    refine g_tabIn (tgt := 68) (off := 67) S c9 dX10_now_1 (by decide) (by decide) (by decide) rfl ?_
    refine lv_aload_n S.1 S.2.1 dX10_now_68 rfl (lv_at hl 0 rfl) ?_
    refine lv_aload_n S.1 S.2.1 dX10_now_69 rfl (lv_at hl 0 rfl) ?_
    refine g_get (a := a_t) S hK Wd iX10_now_X10 0 rfl rfl 16 rfl rfl kX10_now_2 rfl dX10_now_70 ?_
    obtain ⟨u10, hu10, hf⟩ := g_bind hF hf
    refine g_callV (ws' := (wX10_now cI cB cZ cM cJ cK  a_t a_t_text a_t_corners a_t_streets a_t_ends a_t_time a_t_leaders a_t_home a_t_feet a_t_far a_t_now a_t_isKept a_t_tried a_t_row a_t_who a_t_then a_t_best a_t_seenAs a_t_seenAt a_t_plan t_trace t_typed t_at t_start t_sort t_value t_fault t_rowLong t_homes t_bestValue t_seen t_planMany t_corners t_streets t_now)) (As := [.ref a_t_now]) (rest := []) (st1 := [.int u10]) S hK hA Wd (c_X10_walked l D N cI cB cZ cM cJ cK 564 a_t a_t_text a_t_corners a_t_streets a_t_ends a_t_time a_t_leaders a_t_home a_t_feet a_t_far a_t_now a_t_isKept a_t_tried a_t_row a_t_who a_t_then a_t_best a_t_seenAs a_t_seenAt a_t_plan a_t_now t_trace t_typed t_at t_start t_sort t_value t_fault t_rowLong t_homes t_bestValue t_seen t_planMany t_streets t_now) (cwV 1 S.2.2.2.2 gX10_now_X10_walked rfl rfl rfl n_X10_walked ⟨Nat.le_of_ble_eq_true rfl, Nat.le_of_ble_eq_true rfl⟩) hu10 [0, 2, 3] rfl rfl 0 10 rfl rfl rfl rfl rfl rfl rfl hl.1 rfl (Nat.le_of_ble_eq_true rfl) dX10_now_73 ⟨Nat.zero_le _, Nat.zero_le _⟩ (fun H locs Wd => ?_)
    exact g_iret S Wd hr hlk dX10_now_76 u10 hf rfl rfl
  have hf := g_ifn hf c9
  by_cases c11 : x1 = (5 : Int32)
  · have hf := g_if hf c11
    refine g_tabIn (tgt := 77) (off := 76) S c11 dX10_now_1 (by decide) (by decide) (by decide) rfl ?_
    refine lv_aload_n S.1 S.2.1 dX10_now_77 rfl (lv_at hl 0 rfl) ?_
    refine g_get (a := a_t) S hK Wd iX10_now_X10 0 rfl rfl 16 rfl rfl kX10_now_2 rfl dX10_now_78 ?_
    refine lv_iconst (v := 4) S.1 S.2.1 dX10_now_81 (by decide) ?_
    refine g_iald (a := a_t_now) S hK Wd 3 0 rfl rfl (show ¬ (((4 : Int32) < 0) ∨ 564 ≤ Int32.toNatClampNeg (4 : Int32)) from by decide) dX10_now_82 ?_
    exact g_iret S Wd hr hlk dX10_now_83 (t_now (4 : Int32).toNatClampNeg) hf rfl rfl
  have hf := g_ifn hf c11
  refine lv_tableOut (tgt := 84) S.1 S.2.1 dX10_now_1 ?_ rfl ?_
  · have q0 : (x1).toInt < 0 ∨ 5 < (x1).toInt := by
      have z0 : (x1).toInt ≠ 0 := fun e => g_ne c1 (e.trans (by decide))
      have z1 : (x1).toInt ≠ 1 := fun e => g_ne c3 (e.trans (by decide))
      have z2 : (x1).toInt ≠ 2 := fun e => g_ne c5 (e.trans (by decide))
      have z3 : (x1).toInt ≠ 3 := fun e => g_ne c7 (e.trans (by decide))
      have z4 : (x1).toInt ≠ 4 := fun e => g_ne c9 (e.trans (by decide))
      have z5 : (x1).toInt ≠ 5 := fun e => g_ne c11 (e.trans (by decide))
      omega
    exact q0
  refine lv_iconst (v := (-1)) S.1 S.2.1 dX10_now_84 (by decide) ?_
  exact g_iret S Wd hr hlk dX10_now_85 (-1 : Int32) hf rfl rfl
def wX10_firstRow (cI cB cZ cM cJ cK : ClassId) (a_t a_t_text a_t_corners a_t_streets a_t_ends a_t_time a_t_leaders a_t_home a_t_feet a_t_far a_t_now a_t_isKept a_t_tried a_t_row a_t_who a_t_then a_t_best a_t_seenAs a_t_seenAt a_t_plan : Nat) (t_trace : Int64) (t_typed t_at t_start t_sort t_value t_fault t_rowLong t_homes t_bestValue t_seen t_planMany : Int32) (t_leaders t_now t_row : Nat → Int32) : List va_W := [[(a_t, .inr (10, [.long t_trace, .ref a_t_text, .int t_typed, .ref a_t_corners, .ref a_t_streets, .ref a_t_ends, .ref a_t_time, .ref a_t_leaders, .ref a_t_home, .ref a_t_feet, .int t_at, .int t_start, .int t_sort, .int t_value, .int t_fault, .ref a_t_far, .ref a_t_now, .ref a_t_isKept, .ref a_t_tried, .ref a_t_row, .int t_rowLong, .ref a_t_who, .ref a_t_then, .int t_homes, .ref a_t_best, .int t_bestValue, .ref a_t_seenAs, .ref a_t_seenAt, .int t_seen, .ref a_t_plan, .int t_planMany]))], [(a_t_leaders, .inl (cI, 2, .inl t_leaders))], [(a_t_now, .inl (cI, 564, .inl t_now))], [(a_t_row, .inl (cI, 6, .inl t_row))]]
def rmX10_firstRow : Room := { frames := 0, cells := 0, slots := 0, locals := 0 }
theorem kX10_firstRow_1 : Cond.fieldLink RX10 158 "FeastMarchModel" "rowLong" "I" ∈ wsX10_firstRow := List.mem_of_getElem? (i := 1) rfl
theorem kX10_firstRow_2 : Cond.fieldLink RX10 26 "FeastMarchModel" "leaders" "[I" ∈ wsX10_firstRow := List.mem_of_getElem? (i := 2) rfl
theorem kX10_firstRow_3 : Cond.fieldLink RX10 38 "FeastMarchModel" "now" "[I" ∈ wsX10_firstRow := List.mem_of_getElem? (i := 3) rfl
theorem kX10_firstRow_4 : Cond.fieldLink RX10 48 "FeastMarchModel" "row" "[I" ∈ wsX10_firstRow := List.mem_of_getElem? (i := 4) rfl
theorem iX10_firstRow_X10 : ∀ w ∈ wsX100, w ∈ wsX10_firstRow := fun _ h => List.mem_cons_of_mem _ (List.mem_append_right _ h)
theorem n_X10_firstRow : yX10_firstRow.cls = RX10 ∧ yX10_firstRow.cls ≠ "java/lang/invoke/MethodHandle" ∧ yX10_firstRow.cls ≠ "java/lang/invoke/VarHandle" ∧ (parseMethodDescriptor yX10_firstRow.desc).map (fun d => d.parameters.length) = some 0 := by decide +kernel
set_option maxHeartbeats 4000000 in
set_option maxRecDepth 100000 in
theorem c_X10_firstRow (l : Launch) (D : va_G) (N : Nat) (cI cB cZ cM cJ cK : ClassId) (a_t a_t_text a_t_corners a_t_streets a_t_ends a_t_time a_t_leaders a_t_home a_t_feet a_t_far a_t_now a_t_isKept a_t_tried a_t_row a_t_who a_t_then a_t_best a_t_seenAs a_t_seenAt a_t_plan : Nat) (t_trace : Int64) (t_typed t_at t_start t_sort t_value t_fault t_rowLong t_homes t_bestValue t_seen t_planMany : Int32) (t_leaders t_now t_row : Nat → Int32) : gM l yX10_firstRow wsX10_firstRow rmX10_firstRow D (gT cI cB cZ cM cJ cK) (wX10_firstRow cI cB cZ cM cJ cK  a_t a_t_text a_t_corners a_t_streets a_t_ends a_t_time a_t_leaders a_t_home a_t_feet a_t_far a_t_now a_t_isKept a_t_tried a_t_row a_t_who a_t_then a_t_best a_t_seenAs a_t_seenAt a_t_plan t_trace t_typed t_at t_start t_sort t_value t_fault t_rowLong t_homes t_bestValue t_seen t_planMany t_leaders t_now t_row) [.ref a_t] (fX10_firstRow N t_rowLong t_leaders t_now t_row) (fun _u : Int32 × (Nat → Int32) => none) (fun _u : Int32 × (Nat → Int32) => (wX10_firstRow cI cB cZ cM cJ cK  a_t a_t_text a_t_corners a_t_streets a_t_ends a_t_time a_t_leaders a_t_home a_t_feet a_t_far a_t_now a_t_isKept a_t_tried a_t_row a_t_who a_t_then a_t_best a_t_seenAs a_t_seenAt a_t_plan t_trace t_typed t_at t_start t_sort t_value t_fault _u.1 t_homes t_bestValue t_seen t_planMany t_leaders t_now _u.2)) := by
  refine g_start (cc := cX10_firstRow) (maxL := 2) (ret := none) (by decide) rfl (Nat.le_of_ble_eq_true rfl) ?_
  intro F hf hF p e s m below meth c A ls S hK hA Wd hr hlk hnm hl
  have b50 : ∀ (K7 : Int32 → (Nat → Int32) → Int32 → Option (Int32 × (Nat → Int32))) (hK7 : ∀ (t_rowLong : Int32) (t_row : Nat → Int32) (x1 : Int32) (H1 : Heap) (locs1 : List Loc) (ls1 : Array Slot), gw D A s.heap (wX10_firstRow cI cB cZ cM cJ cK  a_t a_t_text a_t_corners a_t_streets a_t_ends a_t_time a_t_leaders a_t_home a_t_feet a_t_far a_t_now a_t_isKept a_t_tried a_t_row a_t_who a_t_then a_t_best a_t_seenAs a_t_seenAt a_t_plan t_trace t_typed t_at t_start t_sort t_value t_fault t_rowLong t_homes t_bestValue t_seen t_planMany t_leaders t_now t_row) H1 locs1 → lv_has ls1 2 [(0, .ref a_t), (1, .int x1)] → F = K7 t_rowLong t_row x1 → W p l e rmX10_firstRow s m [.ref a_t].toArray below meth c H1 locs1 0 0 (MQ below (gQ F (fun _u : Int32 × (Nat → Int32) => none) (fun _u : Int32 × (Nat → Int32) => (wX10_firstRow cI cB cZ cM cJ cK  a_t a_t_text a_t_corners a_t_streets a_t_ends a_t_time a_t_leaders a_t_home a_t_feet a_t_far a_t_now a_t_isKept a_t_tried a_t_row a_t_who a_t_then a_t_best a_t_seenAs a_t_seenAt a_t_plan t_trace t_typed t_at t_start t_sort t_value t_fault _u.1 t_homes t_bestValue t_seen t_planMany t_leaders t_now _u.2)) D A) [.ref a_t].toArray s 0 0 A) (F0 m 7 ls1 [])) , ∀ (t_rowLong : Int32) (t_row : Nat → Int32) (x1 : Int32) (H1 : Heap) (locs1 : List Loc) (ls1 : Array Slot), gw D A s.heap (wX10_firstRow cI cB cZ cM cJ cK  a_t a_t_text a_t_corners a_t_streets a_t_ends a_t_time a_t_leaders a_t_home a_t_feet a_t_far a_t_now a_t_isKept a_t_tried a_t_row a_t_who a_t_then a_t_best a_t_seenAs a_t_seenAt a_t_plan t_trace t_typed t_at t_start t_sort t_value t_fault t_rowLong t_homes t_bestValue t_seen t_planMany t_leaders t_now t_row) H1 locs1 → lv_has ls1 2 [(0, .ref a_t), (1, .int x1)] → F = fX10_firstRow_b50 N t_leaders t_now K7 t_rowLong t_row x1 → W p l e rmX10_firstRow s m [.ref a_t].toArray below meth c H1 locs1 0 0 (MQ below (gQ F (fun _u : Int32 × (Nat → Int32) => none) (fun _u : Int32 × (Nat → Int32) => (wX10_firstRow cI cB cZ cM cJ cK  a_t a_t_text a_t_corners a_t_streets a_t_ends a_t_time a_t_leaders a_t_home a_t_feet a_t_far a_t_now a_t_isKept a_t_tried a_t_row a_t_who a_t_then a_t_best a_t_seenAs a_t_seenAt a_t_plan t_trace t_typed t_at t_start t_sort t_value t_fault _u.1 t_homes t_bestValue t_seen t_planMany t_leaders t_now _u.2)) D A) [.ref a_t].toArray s 0 0 A) (F0 m 50 ls1 []) := by
    intro K7 hK7 t_rowLong t_row x1 H locs ls Wd hl hf
    refine lv_iinc (v := (x1 + (1 : Int32))) (lv' := [(1, .int (x1 + (1 : Int32))), (0, .ref a_t)]) S.1 S.2.1 dX10_firstRow_50 hl (k := 1) rfl rfl (by decide) rfl (fun ls hl => ?_)
    refine lv_goto (tgt := 7) S.1 S.2.1 dX10_firstRow_53 rfl ?_
    exact hK7 t_rowLong t_row (x1 + (1 : Int32)) _ _ _ Wd (lv_sub hl [1, 0] rfl) hf
  have b7 : ∀ (n : Nat), ∀ (t_rowLong : Int32) (t_row : Nat → Int32) (x1 : Int32) (H1 : Heap) (locs1 : List Loc) (ls1 : Array Slot), gw D A s.heap (wX10_firstRow cI cB cZ cM cJ cK  a_t a_t_text a_t_corners a_t_streets a_t_ends a_t_time a_t_leaders a_t_home a_t_feet a_t_far a_t_now a_t_isKept a_t_tried a_t_row a_t_who a_t_then a_t_best a_t_seenAs a_t_seenAt a_t_plan t_trace t_typed t_at t_start t_sort t_value t_fault t_rowLong t_homes t_bestValue t_seen t_planMany t_leaders t_now t_row) H1 locs1 → lv_has ls1 2 [(0, .ref a_t), (1, .int x1)] → F = fX10_firstRow_b7 N t_leaders t_now  n t_rowLong t_row x1 → W p l e rmX10_firstRow s m [.ref a_t].toArray below meth c H1 locs1 0 0 (MQ below (gQ F (fun _u : Int32 × (Nat → Int32) => none) (fun _u : Int32 × (Nat → Int32) => (wX10_firstRow cI cB cZ cM cJ cK  a_t a_t_text a_t_corners a_t_streets a_t_ends a_t_time a_t_leaders a_t_home a_t_feet a_t_far a_t_now a_t_isKept a_t_tried a_t_row a_t_who a_t_then a_t_best a_t_seenAs a_t_seenAt a_t_plan t_trace t_typed t_at t_start t_sort t_value t_fault _u.1 t_homes t_bestValue t_seen t_planMany t_leaders t_now _u.2)) D A) [.ref a_t].toArray s 0 0 A) (F0 m 7 ls1 []) := by
    intro  n
    induction n with
    | zero => intro t_rowLong t_row x1 H locs ls Wd hl hf; exact absurd hf hF
    | succ n ih =>
      intro t_rowLong t_row x1 H locs ls Wd hl hf
      refine lv_iload_n S.1 S.2.1 dX10_firstRow_7 rfl (lv_at hl 1 rfl) ?_
      refine lv_aload_n S.1 S.2.1 dX10_firstRow_8 rfl (lv_at hl 0 rfl) ?_
      refine g_get (a := a_t) S hK Wd iX10_firstRow_X10 0 rfl rfl 7 rfl rfl kX10_firstRow_2 rfl dX10_firstRow_9 ?_
      refine lv_iconst (v := 0) S.1 S.2.1 dX10_firstRow_12 (by decide) ?_
      refine g_iald (a := a_t_leaders) S hK Wd 1 0 rfl rfl (show ¬ (((0 : Int32) < 0) ∨ 2 ≤ Int32.toNatClampNeg (0 : Int32)) from by decide) dX10_firstRow_13 ?_
      refine lv_icmp_ge (tgt := 56) S.1 S.2.1 dX10_firstRow_14 rfl (fun c1 => ?_) (fun c1 => ?_)
      · have hf := g_if hf c1
        exact g_vret S Wd hr hlk dX10_firstRow_56 (t_rowLong, t_row) hf rfl rfl
      · have hf := g_ifn hf c1
        refine lv_aload_n S.1 S.2.1 dX10_firstRow_17 rfl (lv_at hl 0 rfl) ?_
        refine g_get (a := a_t) S hK Wd iX10_firstRow_X10 0 rfl rfl 16 rfl rfl kX10_firstRow_3 rfl dX10_firstRow_18 ?_
        refine lv_iconst (v := 3) S.1 S.2.1 dX10_firstRow_21 (by decide) ?_
        refine g_iald (a := a_t_now) S hK Wd 2 0 rfl rfl (show ¬ (((3 : Int32) < 0) ∨ 564 ≤ Int32.toNatClampNeg (3 : Int32)) from by decide) dX10_firstRow_22 ?_
        refine lv_iload_n S.1 S.2.1 dX10_firstRow_23 rfl (lv_at hl 1 rfl) ?_
        refine lv_ishr S.1 S.2.1 dX10_firstRow_24 ?_
        refine lv_iconst (v := 1) S.1 S.2.1 dX10_firstRow_25 (by decide) ?_
        refine lv_iand S.1 S.2.1 dX10_firstRow_26 ?_
        refine lv_if_ne (tgt := 50) S.1 S.2.1 dX10_firstRow_27 rfl (fun c2 => ?_) (fun c2 => ?_)
        · have hf := g_ifn hf c2
          exact b50 (fun t_rowLong t_row x1 => fX10_firstRow_b7 N t_leaders t_now n t_rowLong t_row x1) ih t_rowLong t_row x1 _ _ _ Wd hl hf
        · have hf := g_if hf c2
          refine lv_aload_n S.1 S.2.1 dX10_firstRow_30 rfl (lv_at hl 0 rfl) ?_
          refine g_get (a := a_t) S hK Wd iX10_firstRow_X10 0 rfl rfl 19 rfl rfl kX10_firstRow_4 rfl dX10_firstRow_31 ?_
          refine lv_aload_n S.1 S.2.1 dX10_firstRow_34 rfl (lv_at hl 0 rfl) ?_
          refine g_get (a := a_t) S hK Wd iX10_firstRow_X10 0 rfl rfl 20 rfl rfl kX10_firstRow_1 rfl dX10_firstRow_35 ?_
          refine lv_iload_n S.1 S.2.1 dX10_firstRow_38 rfl (lv_at hl 1 rfl) ?_
          obtain ⟨h3, hf⟩ := g_gi hF hf
          refine g_iast (a := a_t_row) (ws' := (wX10_firstRow cI cB cZ cM cJ cK  a_t a_t_text a_t_corners a_t_streets a_t_ends a_t_time a_t_leaders a_t_home a_t_feet a_t_far a_t_now a_t_isKept a_t_tried a_t_row a_t_who a_t_then a_t_best a_t_seenAs a_t_seenAt a_t_plan t_trace t_typed t_at t_start t_sort t_value t_fault t_rowLong t_homes t_bestValue t_seen t_planMany t_leaders t_now (upd t_row t_rowLong.toNatClampNeg x1))) S hK Wd 3 0 rfl rfl h3 dX10_firstRow_39 rfl (fun H locs Wd => ?_)
          refine lv_aload_n S.1 S.2.1 dX10_firstRow_40 rfl (lv_at hl 0 rfl) ?_
          refine lv_dup S.1 S.2.1 dX10_firstRow_41 rfl ?_
          refine g_get (a := a_t) S hK Wd iX10_firstRow_X10 0 rfl rfl 20 rfl rfl kX10_firstRow_1 rfl dX10_firstRow_42 ?_
          refine lv_iconst (v := 1) S.1 S.2.1 dX10_firstRow_45 (by decide) ?_
          refine lv_iadd S.1 S.2.1 dX10_firstRow_46 ?_
          refine g_put (a := a_t) (ws' := (wX10_firstRow cI cB cZ cM cJ cK  a_t a_t_text a_t_corners a_t_streets a_t_ends a_t_time a_t_leaders a_t_home a_t_feet a_t_far a_t_now a_t_isKept a_t_tried a_t_row a_t_who a_t_then a_t_best a_t_seenAs a_t_seenAt a_t_plan t_trace t_typed t_at t_start t_sort t_value t_fault (t_rowLong + (1 : Int32)) t_homes t_bestValue t_seen t_planMany t_leaders t_now (upd t_row t_rowLong.toNatClampNeg x1))) S hK Wd iX10_firstRow_X10 tyX10 tyX10_ok nmX10 0 rfl rfl 20 rfl rfl kX10_firstRow_1 rfl rfl rfl dX10_firstRow_47 rfl (fun H locs Wd => ?_)
          exact b50 (fun t_rowLong t_row x1 => fX10_firstRow_b7 N t_leaders t_now n t_rowLong t_row x1) ih (t_rowLong + (1 : Int32)) (upd t_row t_rowLong.toNatClampNeg x1) x1 _ _ _ Wd hl hf
  refine lv_aload_n S.1 S.2.1 dX10_firstRow_0 rfl (lv_at hl 0 rfl) ?_
  refine lv_iconst (v := 0) S.1 S.2.1 dX10_firstRow_1 (by decide) ?_
  refine g_put (a := a_t) (ws' := (wX10_firstRow cI cB cZ cM cJ cK  a_t a_t_text a_t_corners a_t_streets a_t_ends a_t_time a_t_leaders a_t_home a_t_feet a_t_far a_t_now a_t_isKept a_t_tried a_t_row a_t_who a_t_then a_t_best a_t_seenAs a_t_seenAt a_t_plan t_trace t_typed t_at t_start t_sort t_value t_fault (0 : Int32) t_homes t_bestValue t_seen t_planMany t_leaders t_now t_row)) S hK Wd iX10_firstRow_X10 tyX10 tyX10_ok nmX10 0 rfl rfl 20 rfl rfl kX10_firstRow_1 rfl rfl rfl dX10_firstRow_2 rfl (fun H locs Wd => ?_)
  refine lv_iconst (v := 0) S.1 S.2.1 dX10_firstRow_5 (by decide) ?_
  refine lv_istore_n (lv' := [(1, .int (0 : Int32)), (0, .ref a_t)]) S.1 S.2.1 dX10_firstRow_6 rfl hl (by decide) rfl (fun ls hl => ?_)
  exact b7  N (0 : Int32) t_row (0 : Int32) _ _ _ Wd (lv_sub hl [1, 0] rfl) hf
def wX10_turnFrom (cI cB cZ cM cJ cK : ClassId) (n_p1 a_t a_t_text a_t_corners a_t_streets a_t_ends a_t_time a_t_leaders a_t_home a_t_feet a_t_far a_t_now a_t_isKept a_t_tried a_t_row a_t_who a_t_then a_t_best a_t_seenAs a_t_seenAt a_t_plan a_p1 : Nat) (t_trace : Int64) (t_typed t_at t_start t_sort t_value t_fault t_rowLong t_homes t_bestValue t_seen t_planMany : Int32) (p1 : Nat → Int32) : List va_W := [[(a_t, .inr (10, [.long t_trace, .ref a_t_text, .int t_typed, .ref a_t_corners, .ref a_t_streets, .ref a_t_ends, .ref a_t_time, .ref a_t_leaders, .ref a_t_home, .ref a_t_feet, .int t_at, .int t_start, .int t_sort, .int t_value, .int t_fault, .ref a_t_far, .ref a_t_now, .ref a_t_isKept, .ref a_t_tried, .ref a_t_row, .int t_rowLong, .ref a_t_who, .ref a_t_then, .int t_homes, .ref a_t_best, .int t_bestValue, .ref a_t_seenAs, .ref a_t_seenAt, .int t_seen, .ref a_t_plan, .int t_planMany]))], [(a_p1, .inl (cI, n_p1, .inl p1))]]
def rmX10_turnFrom : Room := { frames := 0, cells := 0, slots := 0, locals := 0 }
theorem n_X10_turnFrom : yX10_turnFrom.cls = RX10 ∧ yX10_turnFrom.cls ≠ "java/lang/invoke/MethodHandle" ∧ yX10_turnFrom.cls ≠ "java/lang/invoke/VarHandle" ∧ (parseMethodDescriptor yX10_turnFrom.desc).map (fun d => d.parameters.length) = some 3 := by decide +kernel
set_option maxHeartbeats 4000000 in
set_option maxRecDepth 100000 in
theorem c_X10_turnFrom (l : Launch) (D : va_G) (N : Nat) (cI cB cZ cM cJ cK : ClassId) (n_p1 a_t a_t_text a_t_corners a_t_streets a_t_ends a_t_time a_t_leaders a_t_home a_t_feet a_t_far a_t_now a_t_isKept a_t_tried a_t_row a_t_who a_t_then a_t_best a_t_seenAs a_t_seenAt a_t_plan a_p1 : Nat) (t_trace : Int64) (t_typed t_at t_start t_sort t_value t_fault t_rowLong t_homes t_bestValue t_seen t_planMany : Int32) (p1 : Nat → Int32) (x2 x3 : Int32) : gM l yX10_turnFrom wsX10_turnFrom rmX10_turnFrom D (gT cI cB cZ cM cJ cK) (wX10_turnFrom cI cB cZ cM cJ cK n_p1 a_t a_t_text a_t_corners a_t_streets a_t_ends a_t_time a_t_leaders a_t_home a_t_feet a_t_far a_t_now a_t_isKept a_t_tried a_t_row a_t_who a_t_then a_t_best a_t_seenAs a_t_seenAt a_t_plan a_p1 t_trace t_typed t_at t_start t_sort t_value t_fault t_rowLong t_homes t_bestValue t_seen t_planMany p1) [.ref a_t, .ref a_p1, .int x2, .int x3] (fX10_turnFrom N n_p1 p1 x2 x3) (fun _u : (Nat → Int32) => none) (fun _u : (Nat → Int32) => (wX10_turnFrom cI cB cZ cM cJ cK n_p1 a_t a_t_text a_t_corners a_t_streets a_t_ends a_t_time a_t_leaders a_t_home a_t_feet a_t_far a_t_now a_t_isKept a_t_tried a_t_row a_t_who a_t_then a_t_best a_t_seenAs a_t_seenAt a_t_plan a_p1 t_trace t_typed t_at t_start t_sort t_value t_fault t_rowLong t_homes t_bestValue t_seen t_planMany _u)) := by
  refine g_start (cc := cX10_turnFrom) (maxL := 7) (ret := none) (by decide) rfl (Nat.le_of_ble_eq_true rfl) ?_
  intro F hf hF p e s m below meth c A ls S hK hA Wd hr hlk hnm hl
  have b6 : ∀ (n : Nat), ∀ (p1 : Nat → Int32) (x4 x5 : Int32) (H1 : Heap) (locs1 : List Loc) (ls1 : Array Slot), gw D A s.heap (wX10_turnFrom cI cB cZ cM cJ cK n_p1 a_t a_t_text a_t_corners a_t_streets a_t_ends a_t_time a_t_leaders a_t_home a_t_feet a_t_far a_t_now a_t_isKept a_t_tried a_t_row a_t_who a_t_then a_t_best a_t_seenAs a_t_seenAt a_t_plan a_p1 t_trace t_typed t_at t_start t_sort t_value t_fault t_rowLong t_homes t_bestValue t_seen t_planMany p1) H1 locs1 → lv_has ls1 7 [(1, .ref a_p1), (4, .int x4), (5, .int x5)] → F = fX10_turnFrom_b6 N n_p1 x2 x3  n p1 x4 x5 → W p l e rmX10_turnFrom s m [.ref a_t, .ref a_p1, .int x2, .int x3].toArray below meth c H1 locs1 0 0 (MQ below (gQ F (fun _u : (Nat → Int32) => none) (fun _u : (Nat → Int32) => (wX10_turnFrom cI cB cZ cM cJ cK n_p1 a_t a_t_text a_t_corners a_t_streets a_t_ends a_t_time a_t_leaders a_t_home a_t_feet a_t_far a_t_now a_t_isKept a_t_tried a_t_row a_t_who a_t_then a_t_best a_t_seenAs a_t_seenAt a_t_plan a_p1 t_trace t_typed t_at t_start t_sort t_value t_fault t_rowLong t_homes t_bestValue t_seen t_planMany _u)) D A) [.ref a_t, .ref a_p1, .int x2, .int x3].toArray s 0 0 A) (F0 m 6 ls1 []) := by
    intro  n
    induction n with
    | zero => intro p1 x4 x5 H locs ls Wd hl hf; exact absurd hf hF
    | succ n ih =>
      intro p1 x4 x5 H locs ls Wd hl hf
      refine lv_iload S.1 S.2.1 dX10_turnFrom_6 (lv_at hl 1 rfl) ?_
      refine lv_iload S.1 S.2.1 dX10_turnFrom_8 (lv_at hl 2 rfl) ?_
      refine lv_icmp_ge (tgt := 42) S.1 S.2.1 dX10_turnFrom_10 rfl (fun c1 => ?_) (fun c1 => ?_)
      · have hf := g_if hf c1
        exact g_vret S Wd hr hlk dX10_turnFrom_42 p1 hf rfl rfl
      · have hf := g_ifn hf c1
        refine lv_aload_n S.1 S.2.1 dX10_turnFrom_13 rfl (lv_at hl 0 rfl) ?_
        refine lv_iload S.1 S.2.1 dX10_turnFrom_14 (lv_at hl 1 rfl) ?_
        obtain ⟨h2, hf⟩ := g_gi hF hf
        refine g_iald (a := a_p1) S hK Wd 1 0 rfl rfl h2 dX10_turnFrom_16 ?_
        refine lv_istore (lv' := [(6, .int (p1 x4.toNatClampNeg)), (1, .ref a_p1), (4, .int x4), (5, .int x5)]) S.1 S.2.1 dX10_turnFrom_17 hl (by decide) rfl (fun ls hl => ?_)
        refine lv_aload_n S.1 S.2.1 dX10_turnFrom_19 rfl (lv_at hl 1 rfl) ?_
        refine lv_iload S.1 S.2.1 dX10_turnFrom_20 (lv_at hl 2 rfl) ?_
        refine lv_aload_n S.1 S.2.1 dX10_turnFrom_22 rfl (lv_at hl 1 rfl) ?_
        refine lv_iload S.1 S.2.1 dX10_turnFrom_23 (lv_at hl 3 rfl) ?_
        obtain ⟨h3, hf⟩ := g_gi hF hf
        refine g_iald (a := a_p1) S hK Wd 1 0 rfl rfl h3 dX10_turnFrom_25 ?_
        obtain ⟨h4, hf⟩ := g_gi hF hf
        refine g_iast (a := a_p1) (ws' := (wX10_turnFrom cI cB cZ cM cJ cK n_p1 a_t a_t_text a_t_corners a_t_streets a_t_ends a_t_time a_t_leaders a_t_home a_t_feet a_t_far a_t_now a_t_isKept a_t_tried a_t_row a_t_who a_t_then a_t_best a_t_seenAs a_t_seenAt a_t_plan a_p1 t_trace t_typed t_at t_start t_sort t_value t_fault t_rowLong t_homes t_bestValue t_seen t_planMany (upd p1 x4.toNatClampNeg (p1 x5.toNatClampNeg)))) S hK Wd 1 0 rfl rfl h4 dX10_turnFrom_26 rfl (fun H locs Wd => ?_)
        refine lv_aload_n S.1 S.2.1 dX10_turnFrom_27 rfl (lv_at hl 1 rfl) ?_
        refine lv_iload S.1 S.2.1 dX10_turnFrom_28 (lv_at hl 3 rfl) ?_
        refine lv_iload S.1 S.2.1 dX10_turnFrom_30 (lv_at hl 0 rfl) ?_
        obtain ⟨h5, hf⟩ := g_gi hF hf
        refine g_iast (a := a_p1) (ws' := (wX10_turnFrom cI cB cZ cM cJ cK n_p1 a_t a_t_text a_t_corners a_t_streets a_t_ends a_t_time a_t_leaders a_t_home a_t_feet a_t_far a_t_now a_t_isKept a_t_tried a_t_row a_t_who a_t_then a_t_best a_t_seenAs a_t_seenAt a_t_plan a_p1 t_trace t_typed t_at t_start t_sort t_value t_fault t_rowLong t_homes t_bestValue t_seen t_planMany (upd (upd p1 x4.toNatClampNeg (p1 x5.toNatClampNeg)) x5.toNatClampNeg (p1 x4.toNatClampNeg)))) S hK Wd 1 0 rfl rfl h5 dX10_turnFrom_32 rfl (fun H locs Wd => ?_)
        refine lv_iinc (v := (x4 + (1 : Int32))) (lv' := [(4, .int (x4 + (1 : Int32))), (6, .int (p1 x4.toNatClampNeg)), (1, .ref a_p1), (5, .int x5)]) S.1 S.2.1 dX10_turnFrom_33 hl (k := 2) rfl rfl (by decide) rfl (fun ls hl => ?_)
        refine lv_iinc (v := (x5 + (-1 : Int32))) (lv' := [(5, .int (x5 + (-1 : Int32))), (4, .int (x4 + (1 : Int32))), (6, .int (p1 x4.toNatClampNeg)), (1, .ref a_p1)]) S.1 S.2.1 dX10_turnFrom_36 hl (k := 3) rfl rfl (by decide) rfl (fun ls hl => ?_)
        refine lv_goto (tgt := 6) S.1 S.2.1 dX10_turnFrom_39 rfl ?_
        exact ih (upd (upd p1 x4.toNatClampNeg (p1 x5.toNatClampNeg)) x5.toNatClampNeg (p1 x4.toNatClampNeg)) (x4 + (1 : Int32)) (x5 + (-1 : Int32)) _ _ _ Wd (lv_sub hl [3, 1, 0] rfl) hf
  refine lv_iload_n S.1 S.2.1 dX10_turnFrom_0 rfl (lv_at hl 2 rfl) ?_
  refine lv_istore (lv' := [(4, .int x2), (0, .ref a_t), (1, .ref a_p1), (2, .int x2), (3, .int x3)]) S.1 S.2.1 dX10_turnFrom_1 hl (by decide) rfl (fun ls hl => ?_)
  refine lv_iload_n S.1 S.2.1 dX10_turnFrom_3 rfl (lv_at hl 4 rfl) ?_
  refine lv_istore (lv' := [(5, .int x3), (4, .int x2), (0, .ref a_t), (1, .ref a_p1), (2, .int x2), (3, .int x3)]) S.1 S.2.1 dX10_turnFrom_4 hl (by decide) rfl (fun ls hl => ?_)
  exact b6  N p1 x2 x3 _ _ _ Wd (lv_sub hl [3, 1, 0] rfl) hf
def wX10_nextRow (cI cB cZ cM cJ cK : ClassId) (a_t a_t_text a_t_corners a_t_streets a_t_ends a_t_time a_t_leaders a_t_home a_t_feet a_t_far a_t_now a_t_isKept a_t_tried a_t_row a_t_who a_t_then a_t_best a_t_seenAs a_t_seenAt a_t_plan : Nat) (t_trace : Int64) (t_typed t_at t_start t_sort t_value t_fault t_rowLong t_homes t_bestValue t_seen t_planMany : Int32) (t_row : Nat → Int32) : List va_W := [[(a_t, .inr (10, [.long t_trace, .ref a_t_text, .int t_typed, .ref a_t_corners, .ref a_t_streets, .ref a_t_ends, .ref a_t_time, .ref a_t_leaders, .ref a_t_home, .ref a_t_feet, .int t_at, .int t_start, .int t_sort, .int t_value, .int t_fault, .ref a_t_far, .ref a_t_now, .ref a_t_isKept, .ref a_t_tried, .ref a_t_row, .int t_rowLong, .ref a_t_who, .ref a_t_then, .int t_homes, .ref a_t_best, .int t_bestValue, .ref a_t_seenAs, .ref a_t_seenAt, .int t_seen, .ref a_t_plan, .int t_planMany]))], [(a_t_row, .inl (cI, 6, .inl t_row))]]
def rmX10_nextRow : Room := { frames := 1, cells := 0, slots := 0, locals := 26 }
theorem kX10_nextRow_1 : Cond.fieldLink RX10 158 "FeastMarchModel" "rowLong" "I" ∈ wsX10_nextRow := List.mem_of_getElem? (i := 1) rfl
theorem kX10_nextRow_2 : Cond.fieldLink RX10 48 "FeastMarchModel" "row" "[I" ∈ wsX10_nextRow := List.mem_of_getElem? (i := 2) rfl
theorem iX10_nextRow_X10 : ∀ w ∈ wsX100, w ∈ wsX10_nextRow := fun _ h => List.mem_cons_of_mem _ (List.mem_append_right _ h)
theorem n_X10_nextRow : yX10_nextRow.cls = RX10 ∧ yX10_nextRow.cls ≠ "java/lang/invoke/MethodHandle" ∧ yX10_nextRow.cls ≠ "java/lang/invoke/VarHandle" ∧ (parseMethodDescriptor yX10_nextRow.desc).map (fun d => d.parameters.length) = some 0 := by decide +kernel
set_option maxHeartbeats 4000000 in
set_option maxRecDepth 100000 in
theorem c_X10_nextRow (l : Launch) (D : va_G) (N : Nat) (cI cB cZ cM cJ cK : ClassId) (a_t a_t_text a_t_corners a_t_streets a_t_ends a_t_time a_t_leaders a_t_home a_t_feet a_t_far a_t_now a_t_isKept a_t_tried a_t_row a_t_who a_t_then a_t_best a_t_seenAs a_t_seenAt a_t_plan : Nat) (t_trace : Int64) (t_typed t_at t_start t_sort t_value t_fault t_rowLong t_homes t_bestValue t_seen t_planMany : Int32) (t_row : Nat → Int32) : gM l yX10_nextRow wsX10_nextRow rmX10_nextRow D (gT cI cB cZ cM cJ cK) (wX10_nextRow cI cB cZ cM cJ cK  a_t a_t_text a_t_corners a_t_streets a_t_ends a_t_time a_t_leaders a_t_home a_t_feet a_t_far a_t_now a_t_isKept a_t_tried a_t_row a_t_who a_t_then a_t_best a_t_seenAs a_t_seenAt a_t_plan t_trace t_typed t_at t_start t_sort t_value t_fault t_rowLong t_homes t_bestValue t_seen t_planMany t_row) [.ref a_t] (fX10_nextRow N t_rowLong t_row) (fun _u : Int32 × (Nat → Int32) => some (.int _u.1)) (fun _u : Int32 × (Nat → Int32) => (wX10_nextRow cI cB cZ cM cJ cK  a_t a_t_text a_t_corners a_t_streets a_t_ends a_t_time a_t_leaders a_t_home a_t_feet a_t_far a_t_now a_t_isKept a_t_tried a_t_row a_t_who a_t_then a_t_best a_t_seenAs a_t_seenAt a_t_plan t_trace t_typed t_at t_start t_sort t_value t_fault t_rowLong t_homes t_bestValue t_seen t_planMany _u.2)) := by
  refine g_start (cc := cX10_nextRow) (maxL := 4) (ret := (some .boolean)) (by decide) rfl (Nat.le_of_ble_eq_true rfl) ?_
  intro F hf hF p e s m below meth c A ls S hK hA Wd hr hlk hnm hl
  have b47 : ∀ (n : Nat), ∀ (t_row : Nat → Int32) (x1 x2 : Int32) (H1 : Heap) (locs1 : List Loc) (ls1 : Array Slot), gw D A s.heap (wX10_nextRow cI cB cZ cM cJ cK  a_t a_t_text a_t_corners a_t_streets a_t_ends a_t_time a_t_leaders a_t_home a_t_feet a_t_far a_t_now a_t_isKept a_t_tried a_t_row a_t_who a_t_then a_t_best a_t_seenAs a_t_seenAt a_t_plan t_trace t_typed t_at t_start t_sort t_value t_fault t_rowLong t_homes t_bestValue t_seen t_planMany t_row) H1 locs1 → lv_has ls1 4 [(0, .ref a_t), (1, .int x1), (2, .int x2)] → F = fX10_nextRow_b47 N t_rowLong  n t_row x1 x2 → W p l e rmX10_nextRow s m [.ref a_t].toArray below meth c H1 locs1 0 0 (MQ below (gQ F (fun _u : Int32 × (Nat → Int32) => some (.int _u.1)) (fun _u : Int32 × (Nat → Int32) => (wX10_nextRow cI cB cZ cM cJ cK  a_t a_t_text a_t_corners a_t_streets a_t_ends a_t_time a_t_leaders a_t_home a_t_feet a_t_far a_t_now a_t_isKept a_t_tried a_t_row a_t_who a_t_then a_t_best a_t_seenAs a_t_seenAt a_t_plan t_trace t_typed t_at t_start t_sort t_value t_fault t_rowLong t_homes t_bestValue t_seen t_planMany _u.2)) D A) [.ref a_t].toArray s 0 0 A) (F0 m 47 ls1 []) := by
    intro  n
    induction n with
    | zero => intro t_row x1 x2 H locs ls Wd hl hf; exact absurd hf hF
    | succ n ih =>
      intro t_row x1 x2 H locs ls Wd hl hf
      refine lv_aload_n S.1 S.2.1 dX10_nextRow_47 rfl (lv_at hl 0 rfl) ?_
      refine g_get (a := a_t) S hK Wd iX10_nextRow_X10 0 rfl rfl 19 rfl rfl kX10_nextRow_2 rfl dX10_nextRow_48 ?_
      refine lv_iload_n S.1 S.2.1 dX10_nextRow_51 rfl (lv_at hl 2 rfl) ?_
      obtain ⟨h6, hf⟩ := g_gi hF hf
      refine g_iald (a := a_t_row) S hK Wd 1 0 rfl rfl h6 dX10_nextRow_52 ?_
      refine lv_aload_n S.1 S.2.1 dX10_nextRow_53 rfl (lv_at hl 0 rfl) ?_
      refine g_get (a := a_t) S hK Wd iX10_nextRow_X10 0 rfl rfl 19 rfl rfl kX10_nextRow_2 rfl dX10_nextRow_54 ?_
      refine lv_iload_n S.1 S.2.1 dX10_nextRow_57 rfl (lv_at hl 1 rfl) ?_
      obtain ⟨h7, hf⟩ := g_gi hF hf
      refine g_iald (a := a_t_row) S hK Wd 1 0 rfl rfl h7 dX10_nextRow_58 ?_
      refine lv_icmp_ge (tgt := 68) S.1 S.2.1 dX10_nextRow_59 rfl (fun c8 => ?_) (fun c8 => ?_)
      · have hf := g_if hf c8
        refine lv_aload_n S.1 S.2.1 dX10_nextRow_68 rfl (lv_at hl 0 rfl) ?_
        refine g_get (a := a_t) S hK Wd iX10_nextRow_X10 0 rfl rfl 19 rfl rfl kX10_nextRow_2 rfl dX10_nextRow_69 ?_
        refine lv_iload_n S.1 S.2.1 dX10_nextRow_72 rfl (lv_at hl 1 rfl) ?_
        obtain ⟨h9, hf⟩ := g_gi hF hf
        refine g_iald (a := a_t_row) S hK Wd 1 0 rfl rfl h9 dX10_nextRow_73 ?_
        refine lv_istore_n (lv' := [(3, .int (t_row x1.toNatClampNeg)), (0, .ref a_t), (1, .int x1), (2, .int x2)]) S.1 S.2.1 dX10_nextRow_74 rfl hl (by decide) rfl (fun ls hl => ?_)
        refine lv_aload_n S.1 S.2.1 dX10_nextRow_75 rfl (lv_at hl 1 rfl) ?_
        refine g_get (a := a_t) S hK Wd iX10_nextRow_X10 0 rfl rfl 19 rfl rfl kX10_nextRow_2 rfl dX10_nextRow_76 ?_
        refine lv_iload_n S.1 S.2.1 dX10_nextRow_79 rfl (lv_at hl 2 rfl) ?_
        refine lv_aload_n S.1 S.2.1 dX10_nextRow_80 rfl (lv_at hl 1 rfl) ?_
        refine g_get (a := a_t) S hK Wd iX10_nextRow_X10 0 rfl rfl 19 rfl rfl kX10_nextRow_2 rfl dX10_nextRow_81 ?_
        refine lv_iload_n S.1 S.2.1 dX10_nextRow_84 rfl (lv_at hl 3 rfl) ?_
        obtain ⟨h10, hf⟩ := g_gi hF hf
        refine g_iald (a := a_t_row) S hK Wd 1 0 rfl rfl h10 dX10_nextRow_85 ?_
        obtain ⟨h11, hf⟩ := g_gi hF hf
        refine g_iast (a := a_t_row) (ws' := (wX10_nextRow cI cB cZ cM cJ cK  a_t a_t_text a_t_corners a_t_streets a_t_ends a_t_time a_t_leaders a_t_home a_t_feet a_t_far a_t_now a_t_isKept a_t_tried a_t_row a_t_who a_t_then a_t_best a_t_seenAs a_t_seenAt a_t_plan t_trace t_typed t_at t_start t_sort t_value t_fault t_rowLong t_homes t_bestValue t_seen t_planMany (upd t_row x1.toNatClampNeg (t_row x2.toNatClampNeg)))) S hK Wd 1 0 rfl rfl h11 dX10_nextRow_86 rfl (fun H locs Wd => ?_)
        refine lv_aload_n S.1 S.2.1 dX10_nextRow_87 rfl (lv_at hl 1 rfl) ?_
        refine g_get (a := a_t) S hK Wd iX10_nextRow_X10 0 rfl rfl 19 rfl rfl kX10_nextRow_2 rfl dX10_nextRow_88 ?_
        refine lv_iload_n S.1 S.2.1 dX10_nextRow_91 rfl (lv_at hl 3 rfl) ?_
        refine lv_iload_n S.1 S.2.1 dX10_nextRow_92 rfl (lv_at hl 0 rfl) ?_
        obtain ⟨h12, hf⟩ := g_gi hF hf
        refine g_iast (a := a_t_row) (ws' := (wX10_nextRow cI cB cZ cM cJ cK  a_t a_t_text a_t_corners a_t_streets a_t_ends a_t_time a_t_leaders a_t_home a_t_feet a_t_far a_t_now a_t_isKept a_t_tried a_t_row a_t_who a_t_then a_t_best a_t_seenAs a_t_seenAt a_t_plan t_trace t_typed t_at t_start t_sort t_value t_fault t_rowLong t_homes t_bestValue t_seen t_planMany (upd (upd t_row x1.toNatClampNeg (t_row x2.toNatClampNeg)) x2.toNatClampNeg (t_row x1.toNatClampNeg)))) S hK Wd 1 0 rfl rfl h12 dX10_nextRow_93 rfl (fun H locs Wd => ?_)
        refine lv_aload_n S.1 S.2.1 dX10_nextRow_94 rfl (lv_at hl 1 rfl) ?_
        refine lv_aload_n S.1 S.2.1 dX10_nextRow_95 rfl (lv_at hl 1 rfl) ?_
        refine g_get (a := a_t) S hK Wd iX10_nextRow_X10 0 rfl rfl 19 rfl rfl kX10_nextRow_2 rfl dX10_nextRow_96 ?_
        refine lv_iload_n S.1 S.2.1 dX10_nextRow_99 rfl (lv_at hl 2 rfl) ?_
        refine lv_iconst (v := 1) S.1 S.2.1 dX10_nextRow_100 (by decide) ?_
        refine lv_iadd S.1 S.2.1 dX10_nextRow_101 ?_
        refine lv_aload_n S.1 S.2.1 dX10_nextRow_102 rfl (lv_at hl 1 rfl) ?_
        refine g_get (a := a_t) S hK Wd iX10_nextRow_X10 0 rfl rfl 20 rfl rfl kX10_nextRow_1 rfl dX10_nextRow_103 ?_
        refine lv_iconst (v := 1) S.1 S.2.1 dX10_nextRow_106 (by decide) ?_
        refine lv_isub S.1 S.2.1 dX10_nextRow_107 ?_
        obtain ⟨u13, hu13, hf⟩ := g_bind hF hf
        refine g_callV (ws' := (wX10_nextRow cI cB cZ cM cJ cK  a_t a_t_text a_t_corners a_t_streets a_t_ends a_t_time a_t_leaders a_t_home a_t_feet a_t_far a_t_now a_t_isKept a_t_tried a_t_row a_t_who a_t_then a_t_best a_t_seenAs a_t_seenAt a_t_plan t_trace t_typed t_at t_start t_sort t_value t_fault t_rowLong t_homes t_bestValue t_seen t_planMany u13)) (As := [.ref a_t_row, .int (x1 + (1 : Int32)), .int (t_rowLong - (1 : Int32))]) (rest := []) (st1 := []) S hK hA Wd (c_X10_turnFrom l D N cI cB cZ cM cJ cK 6 a_t a_t_text a_t_corners a_t_streets a_t_ends a_t_time a_t_leaders a_t_home a_t_feet a_t_far a_t_now a_t_isKept a_t_tried a_t_row a_t_who a_t_then a_t_best a_t_seenAs a_t_seenAt a_t_plan a_t_row t_trace t_typed t_at t_start t_sort t_value t_fault t_rowLong t_homes t_bestValue t_seen t_planMany (upd (upd t_row x1.toNatClampNeg (t_row x2.toNatClampNeg)) x2.toNatClampNeg (t_row x1.toNatClampNeg)) (x1 + (1 : Int32)) (t_rowLong - (1 : Int32))) (cwV 3 S.2.2.2.2 gX10_nextRow_X10_turnFrom rfl rfl rfl n_X10_turnFrom ⟨Nat.le_of_ble_eq_true rfl, Nat.le_of_ble_eq_true rfl⟩) hu13 [0, 1] rfl rfl 0 10 rfl rfl rfl rfl rfl rfl rfl hl.1 rfl (Nat.le_of_ble_eq_true rfl) dX10_nextRow_108 ⟨Nat.zero_le _, Nat.zero_le _⟩ (fun H locs Wd => ?_)
        refine lv_iconst (v := 1) S.1 S.2.1 dX10_nextRow_111 (by decide) ?_
        exact g_zret S Wd hr hlk rfl dX10_nextRow_112 ((1 : Int32), u13) hf rfl rfl
      · have hf := g_ifn hf c8
        refine lv_iinc (v := (x2 + (-1 : Int32))) (lv' := [(2, .int (x2 + (-1 : Int32))), (0, .ref a_t), (1, .int x1)]) S.1 S.2.1 dX10_nextRow_62 hl (k := 2) rfl rfl (by decide) rfl (fun ls hl => ?_)
        refine lv_goto (tgt := 47) S.1 S.2.1 dX10_nextRow_65 rfl ?_
        exact ih t_row x1 (x2 + (-1 : Int32)) _ _ _ Wd (lv_sub hl [1, 2, 0] rfl) hf
  have b34 : ∀ (t_row : Nat → Int32) (x1 : Int32) (H1 : Heap) (locs1 : List Loc) (ls1 : Array Slot), gw D A s.heap (wX10_nextRow cI cB cZ cM cJ cK  a_t a_t_text a_t_corners a_t_streets a_t_ends a_t_time a_t_leaders a_t_home a_t_feet a_t_far a_t_now a_t_isKept a_t_tried a_t_row a_t_who a_t_then a_t_best a_t_seenAs a_t_seenAt a_t_plan t_trace t_typed t_at t_start t_sort t_value t_fault t_rowLong t_homes t_bestValue t_seen t_planMany t_row) H1 locs1 → lv_has ls1 4 [(0, .ref a_t), (1, .int x1)] → F = fX10_nextRow_b34 N t_rowLong  t_row x1 → W p l e rmX10_nextRow s m [.ref a_t].toArray below meth c H1 locs1 0 0 (MQ below (gQ F (fun _u : Int32 × (Nat → Int32) => some (.int _u.1)) (fun _u : Int32 × (Nat → Int32) => (wX10_nextRow cI cB cZ cM cJ cK  a_t a_t_text a_t_corners a_t_streets a_t_ends a_t_time a_t_leaders a_t_home a_t_feet a_t_far a_t_now a_t_isKept a_t_tried a_t_row a_t_who a_t_then a_t_best a_t_seenAs a_t_seenAt a_t_plan t_trace t_typed t_at t_start t_sort t_value t_fault t_rowLong t_homes t_bestValue t_seen t_planMany _u.2)) D A) [.ref a_t].toArray s 0 0 A) (F0 m 34 ls1 []) := by
    intro  t_row x1 H locs ls Wd hl hf
    refine lv_iload_n S.1 S.2.1 dX10_nextRow_34 rfl (lv_at hl 1 rfl) ?_
    refine lv_if_ge (tgt := 40) S.1 S.2.1 dX10_nextRow_35 rfl (fun c5 => ?_) (fun c5 => ?_)
    · have hf := g_if hf c5
      refine lv_aload_n S.1 S.2.1 dX10_nextRow_40 rfl (lv_at hl 0 rfl) ?_
      refine g_get (a := a_t) S hK Wd iX10_nextRow_X10 0 rfl rfl 20 rfl rfl kX10_nextRow_1 rfl dX10_nextRow_41 ?_
      refine lv_iconst (v := 1) S.1 S.2.1 dX10_nextRow_44 (by decide) ?_
      refine lv_isub S.1 S.2.1 dX10_nextRow_45 ?_
      refine lv_istore_n (lv' := [(2, .int (t_rowLong - (1 : Int32))), (0, .ref a_t), (1, .int x1)]) S.1 S.2.1 dX10_nextRow_46 rfl hl (by decide) rfl (fun ls hl => ?_)
      exact b47  N t_row x1 (t_rowLong - (1 : Int32)) _ _ _ Wd (lv_sub hl [1, 2, 0] rfl) hf
    · have hf := g_ifn hf c5
      refine lv_iconst (v := 0) S.1 S.2.1 dX10_nextRow_38 (by decide) ?_
      exact g_zret S Wd hr hlk rfl dX10_nextRow_39 ((0 : Int32), t_row) hf rfl rfl
  have b7 : ∀ (n : Nat), ∀ (t_row : Nat → Int32) (x1 : Int32) (H1 : Heap) (locs1 : List Loc) (ls1 : Array Slot), gw D A s.heap (wX10_nextRow cI cB cZ cM cJ cK  a_t a_t_text a_t_corners a_t_streets a_t_ends a_t_time a_t_leaders a_t_home a_t_feet a_t_far a_t_now a_t_isKept a_t_tried a_t_row a_t_who a_t_then a_t_best a_t_seenAs a_t_seenAt a_t_plan t_trace t_typed t_at t_start t_sort t_value t_fault t_rowLong t_homes t_bestValue t_seen t_planMany t_row) H1 locs1 → lv_has ls1 4 [(0, .ref a_t), (1, .int x1)] → F = fX10_nextRow_b7 N t_rowLong  n t_row x1 → W p l e rmX10_nextRow s m [.ref a_t].toArray below meth c H1 locs1 0 0 (MQ below (gQ F (fun _u : Int32 × (Nat → Int32) => some (.int _u.1)) (fun _u : Int32 × (Nat → Int32) => (wX10_nextRow cI cB cZ cM cJ cK  a_t a_t_text a_t_corners a_t_streets a_t_ends a_t_time a_t_leaders a_t_home a_t_feet a_t_far a_t_now a_t_isKept a_t_tried a_t_row a_t_who a_t_then a_t_best a_t_seenAs a_t_seenAt a_t_plan t_trace t_typed t_at t_start t_sort t_value t_fault t_rowLong t_homes t_bestValue t_seen t_planMany _u.2)) D A) [.ref a_t].toArray s 0 0 A) (F0 m 7 ls1 []) := by
    intro  n
    induction n with
    | zero => intro t_row x1 H locs ls Wd hl hf; exact absurd hf hF
    | succ n ih =>
      intro t_row x1 H locs ls Wd hl hf
      refine lv_iload_n S.1 S.2.1 dX10_nextRow_7 rfl (lv_at hl 1 rfl) ?_
      refine lv_if_lt (tgt := 34) S.1 S.2.1 dX10_nextRow_8 rfl (fun c1 => ?_) (fun c1 => ?_)
      · have hf := g_if hf c1
        exact b34  t_row x1 _ _ _ Wd hl hf
      · have hf := g_ifn hf c1
        refine lv_aload_n S.1 S.2.1 dX10_nextRow_11 rfl (lv_at hl 0 rfl) ?_
        refine g_get (a := a_t) S hK Wd iX10_nextRow_X10 0 rfl rfl 19 rfl rfl kX10_nextRow_2 rfl dX10_nextRow_12 ?_
        refine lv_iload_n S.1 S.2.1 dX10_nextRow_15 rfl (lv_at hl 1 rfl) ?_
        obtain ⟨h2, hf⟩ := g_gi hF hf
        refine g_iald (a := a_t_row) S hK Wd 1 0 rfl rfl h2 dX10_nextRow_16 ?_
        refine lv_aload_n S.1 S.2.1 dX10_nextRow_17 rfl (lv_at hl 0 rfl) ?_
        refine g_get (a := a_t) S hK Wd iX10_nextRow_X10 0 rfl rfl 19 rfl rfl kX10_nextRow_2 rfl dX10_nextRow_18 ?_
        refine lv_iload_n S.1 S.2.1 dX10_nextRow_21 rfl (lv_at hl 1 rfl) ?_
        refine lv_iconst (v := 1) S.1 S.2.1 dX10_nextRow_22 (by decide) ?_
        refine lv_iadd S.1 S.2.1 dX10_nextRow_23 ?_
        obtain ⟨h3, hf⟩ := g_gi hF hf
        refine g_iald (a := a_t_row) S hK Wd 1 0 rfl rfl h3 dX10_nextRow_24 ?_
        refine lv_icmp_le (tgt := 34) S.1 S.2.1 dX10_nextRow_25 rfl (fun c4 => ?_) (fun c4 => ?_)
        · have hf := g_if hf c4
          exact b34  t_row x1 _ _ _ Wd hl hf
        · have hf := g_ifn hf c4
          refine lv_iinc (v := (x1 + (-1 : Int32))) (lv' := [(1, .int (x1 + (-1 : Int32))), (0, .ref a_t)]) S.1 S.2.1 dX10_nextRow_28 hl (k := 1) rfl rfl (by decide) rfl (fun ls hl => ?_)
          refine lv_goto (tgt := 7) S.1 S.2.1 dX10_nextRow_31 rfl ?_
          exact ih t_row (x1 + (-1 : Int32)) _ _ _ Wd (lv_sub hl [1, 0] rfl) hf
  refine lv_aload_n S.1 S.2.1 dX10_nextRow_0 rfl (lv_at hl 0 rfl) ?_
  refine g_get (a := a_t) S hK Wd iX10_nextRow_X10 0 rfl rfl 20 rfl rfl kX10_nextRow_1 rfl dX10_nextRow_1 ?_
  refine lv_iconst (v := 2) S.1 S.2.1 dX10_nextRow_4 (by decide) ?_
  refine lv_isub S.1 S.2.1 dX10_nextRow_5 ?_
  refine lv_istore_n (lv' := [(1, .int (t_rowLong - (2 : Int32))), (0, .ref a_t)]) S.1 S.2.1 dX10_nextRow_6 rfl hl (by decide) rfl (fun ls hl => ?_)
  exact b7  N t_row (t_rowLong - (2 : Int32)) _ _ _ Wd (lv_sub hl [1, 0] rfl) hf
def wX10_run (cI cB cZ cM cJ cK : ClassId) (a_t a_t_text a_t_corners a_t_streets a_t_ends a_t_time a_t_leaders a_t_home a_t_feet a_t_far a_t_now a_t_isKept a_t_tried a_t_row a_t_who a_t_then a_t_best a_t_seenAs a_t_seenAt a_t_plan : Nat) (t_trace : Int64) (t_typed t_at t_start t_sort t_value t_fault t_rowLong t_homes t_bestValue t_seen t_planMany : Int32) (t_streets t_ends t_time t_home t_feet t_far t_now t_tried t_row t_who t_then : Nat → Int32) : List va_W := [[(a_t, .inr (10, [.long t_trace, .ref a_t_text, .int t_typed, .ref a_t_corners, .ref a_t_streets, .ref a_t_ends, .ref a_t_time, .ref a_t_leaders, .ref a_t_home, .ref a_t_feet, .int t_at, .int t_start, .int t_sort, .int t_value, .int t_fault, .ref a_t_far, .ref a_t_now, .ref a_t_isKept, .ref a_t_tried, .ref a_t_row, .int t_rowLong, .ref a_t_who, .ref a_t_then, .int t_homes, .ref a_t_best, .int t_bestValue, .ref a_t_seenAs, .ref a_t_seenAt, .int t_seen, .ref a_t_plan, .int t_planMany]))], [(a_t_streets, .inl (cI, 2, .inl t_streets))], [(a_t_ends, .inl (cI, 48, .inl t_ends))], [(a_t_time, .inl (cI, 24, .inl t_time))], [(a_t_home, .inl (cI, 12, .inl t_home))], [(a_t_feet, .inl (cI, 12, .inl t_feet))], [(a_t_far, .inl (cI, 64, .inl t_far))], [(a_t_now, .inl (cI, 564, .inl t_now))], [(a_t_tried, .inl (cI, 17, .inl t_tried))], [(a_t_row, .inl (cI, 6, .inl t_row))], [(a_t_who, .inl (cI, 6, .inl t_who))], [(a_t_then, .inl (cI, 6, .inl t_then))]]
def rmX10_run : Room := { frames := 2, cells := 0, slots := 0, locals := 54 }
theorem kX10_run_1 : Cond.fieldLink RX10 168 "FeastMarchModel" "homes" "I" ∈ wsX10_run := List.mem_of_getElem? (i := 1) rfl
theorem kX10_run_2 : Cond.fieldLink RX10 158 "FeastMarchModel" "rowLong" "I" ∈ wsX10_run := List.mem_of_getElem? (i := 2) rfl
theorem kX10_run_3 : Cond.fieldLink RX10 51 "FeastMarchModel" "who" "[I" ∈ wsX10_run := List.mem_of_getElem? (i := 3) rfl
theorem kX10_run_4 : Cond.fieldLink RX10 48 "FeastMarchModel" "row" "[I" ∈ wsX10_run := List.mem_of_getElem? (i := 4) rfl
theorem kX10_run_5 : Cond.fieldLink RX10 45 "FeastMarchModel" "tried" "[I" ∈ wsX10_run := List.mem_of_getElem? (i := 5) rfl
theorem kX10_run_6 : Cond.fieldLink RX10 54 "FeastMarchModel" "then" "[I" ∈ wsX10_run := List.mem_of_getElem? (i := 6) rfl
theorem kX10_run_7 : Cond.fieldLink RX10 29 "FeastMarchModel" "home" "[I" ∈ wsX10_run := List.mem_of_getElem? (i := 7) rfl
theorem iX10_run_X10 : ∀ w ∈ wsX100, w ∈ wsX10_run := fun _ h => List.mem_cons_of_mem _ (List.mem_append_right _ h)
theorem n_X10_run : yX10_run.cls = RX10 ∧ yX10_run.cls ≠ "java/lang/invoke/MethodHandle" ∧ yX10_run.cls ≠ "java/lang/invoke/VarHandle" ∧ (parseMethodDescriptor yX10_run.desc).map (fun d => d.parameters.length) = some 0 := by decide +kernel
set_option maxHeartbeats 4000000 in
set_option maxRecDepth 100000 in
theorem c_X10_run (l : Launch) (D : va_G) (N : Nat) (cI cB cZ cM cJ cK : ClassId) (a_t a_t_text a_t_corners a_t_streets a_t_ends a_t_time a_t_leaders a_t_home a_t_feet a_t_far a_t_now a_t_isKept a_t_tried a_t_row a_t_who a_t_then a_t_best a_t_seenAs a_t_seenAt a_t_plan : Nat) (t_trace : Int64) (t_typed t_at t_start t_sort t_value t_fault t_rowLong t_homes t_bestValue t_seen t_planMany : Int32) (t_streets t_ends t_time t_home t_feet t_far t_now t_tried t_row t_who t_then : Nat → Int32) : gM l yX10_run wsX10_run rmX10_run D (gT cI cB cZ cM cJ cK) (wX10_run cI cB cZ cM cJ cK  a_t a_t_text a_t_corners a_t_streets a_t_ends a_t_time a_t_leaders a_t_home a_t_feet a_t_far a_t_now a_t_isKept a_t_tried a_t_row a_t_who a_t_then a_t_best a_t_seenAs a_t_seenAt a_t_plan t_trace t_typed t_at t_start t_sort t_value t_fault t_rowLong t_homes t_bestValue t_seen t_planMany t_streets t_ends t_time t_home t_feet t_far t_now t_tried t_row t_who t_then) [.ref a_t] (fX10_run N t_rowLong t_homes t_streets t_ends t_time t_home t_feet t_far t_now t_tried t_row t_who t_then) (fun _u : Int32 × (Nat → Int32) × (Nat → Int32) × (Nat → Int32) => none) (fun _u : Int32 × (Nat → Int32) × (Nat → Int32) × (Nat → Int32) => (wX10_run cI cB cZ cM cJ cK  a_t a_t_text a_t_corners a_t_streets a_t_ends a_t_time a_t_leaders a_t_home a_t_feet a_t_far a_t_now a_t_isKept a_t_tried a_t_row a_t_who a_t_then a_t_best a_t_seenAs a_t_seenAt a_t_plan t_trace t_typed t_at t_start t_sort t_value t_fault t_rowLong _u.1 t_bestValue t_seen t_planMany t_streets t_ends t_time t_home t_feet t_far t_now _u.2.1 t_row _u.2.2.1 _u.2.2.2)) := by
  refine g_start (cc := cX10_run) (maxL := 2) (ret := none) (by decide) rfl (Nat.le_of_ble_eq_true rfl) ?_
  intro F hf hF p e s m below meth c A ls S hK hA Wd hr hlk hnm hl
  have b123 : ∀ (K39 : Int32 → (Nat → Int32) → (Nat → Int32) → (Nat → Int32) → Int32 → Option (Int32 × (Nat → Int32) × (Nat → Int32) × (Nat → Int32))) (hK39 : ∀ (t_homes : Int32) (t_tried t_who t_then : Nat → Int32) (x1 : Int32) (H1 : Heap) (locs1 : List Loc) (ls1 : Array Slot), gw D A s.heap (wX10_run cI cB cZ cM cJ cK  a_t a_t_text a_t_corners a_t_streets a_t_ends a_t_time a_t_leaders a_t_home a_t_feet a_t_far a_t_now a_t_isKept a_t_tried a_t_row a_t_who a_t_then a_t_best a_t_seenAs a_t_seenAt a_t_plan t_trace t_typed t_at t_start t_sort t_value t_fault t_rowLong t_homes t_bestValue t_seen t_planMany t_streets t_ends t_time t_home t_feet t_far t_now t_tried t_row t_who t_then) H1 locs1 → lv_has ls1 2 [(0, .ref a_t), (1, .int x1)] → F = K39 t_homes t_tried t_who t_then x1 → W p l e rmX10_run s m [.ref a_t].toArray below meth c H1 locs1 0 0 (MQ below (gQ F (fun _u : Int32 × (Nat → Int32) × (Nat → Int32) × (Nat → Int32) => none) (fun _u : Int32 × (Nat → Int32) × (Nat → Int32) × (Nat → Int32) => (wX10_run cI cB cZ cM cJ cK  a_t a_t_text a_t_corners a_t_streets a_t_ends a_t_time a_t_leaders a_t_home a_t_feet a_t_far a_t_now a_t_isKept a_t_tried a_t_row a_t_who a_t_then a_t_best a_t_seenAs a_t_seenAt a_t_plan t_trace t_typed t_at t_start t_sort t_value t_fault t_rowLong _u.1 t_bestValue t_seen t_planMany t_streets t_ends t_time t_home t_feet t_far t_now _u.2.1 t_row _u.2.2.1 _u.2.2.2)) D A) [.ref a_t].toArray s 0 0 A) (F0 m 39 ls1 [])) , ∀ (t_homes : Int32) (t_tried t_who t_then : Nat → Int32) (x1 y0 y1 : Int32) (H1 : Heap) (locs1 : List Loc) (ls1 : Array Slot), gw D A s.heap (wX10_run cI cB cZ cM cJ cK  a_t a_t_text a_t_corners a_t_streets a_t_ends a_t_time a_t_leaders a_t_home a_t_feet a_t_far a_t_now a_t_isKept a_t_tried a_t_row a_t_who a_t_then a_t_best a_t_seenAs a_t_seenAt a_t_plan t_trace t_typed t_at t_start t_sort t_value t_fault t_rowLong t_homes t_bestValue t_seen t_planMany t_streets t_ends t_time t_home t_feet t_far t_now t_tried t_row t_who t_then) H1 locs1 → lv_has ls1 2 [(0, .ref a_t), (1, .int x1)] → F = fX10_run_b123 N t_rowLong t_streets t_ends t_time t_home t_feet t_far t_now t_row K39 t_homes t_tried t_who t_then x1 y0 y1 → W p l e rmX10_run s m [.ref a_t].toArray below meth c H1 locs1 0 0 (MQ below (gQ F (fun _u : Int32 × (Nat → Int32) × (Nat → Int32) × (Nat → Int32) => none) (fun _u : Int32 × (Nat → Int32) × (Nat → Int32) × (Nat → Int32) => (wX10_run cI cB cZ cM cJ cK  a_t a_t_text a_t_corners a_t_streets a_t_ends a_t_time a_t_leaders a_t_home a_t_feet a_t_far a_t_now a_t_isKept a_t_tried a_t_row a_t_who a_t_then a_t_best a_t_seenAs a_t_seenAt a_t_plan t_trace t_typed t_at t_start t_sort t_value t_fault t_rowLong _u.1 t_bestValue t_seen t_planMany t_streets t_ends t_time t_home t_feet t_far t_now _u.2.1 t_row _u.2.2.1 _u.2.2.2)) D A) [.ref a_t].toArray s 0 0 A) (F0 m 123 ls1 [.int y0, .int y1, .ref a_t]) := by
    intro K39 hK39 t_homes t_tried t_who t_then x1 y0 y1 H locs ls Wd hl hf
    refine lv_iadd S.1 S.2.1 dX10_run_123 ?_
    refine g_put (a := a_t) (ws' := (wX10_run cI cB cZ cM cJ cK  a_t a_t_text a_t_corners a_t_streets a_t_ends a_t_time a_t_leaders a_t_home a_t_feet a_t_far a_t_now a_t_isKept a_t_tried a_t_row a_t_who a_t_then a_t_best a_t_seenAs a_t_seenAt a_t_plan t_trace t_typed t_at t_start t_sort t_value t_fault t_rowLong (y1 + y0) t_bestValue t_seen t_planMany t_streets t_ends t_time t_home t_feet t_far t_now t_tried t_row t_who t_then)) S hK Wd iX10_run_X10 tyX10 tyX10_ok nmX10 0 rfl rfl 23 rfl rfl kX10_run_1 rfl rfl rfl dX10_run_124 rfl (fun H locs Wd => ?_)
    refine lv_iinc (v := (x1 + (1 : Int32))) (lv' := [(1, .int (x1 + (1 : Int32))), (0, .ref a_t)]) S.1 S.2.1 dX10_run_127 hl (k := 1) rfl rfl (by decide) rfl (fun ls hl => ?_)
    refine lv_goto (tgt := 39) S.1 S.2.1 dX10_run_130 rfl ?_
    exact hK39 (y1 + y0) t_tried t_who t_then (x1 + (1 : Int32)) _ _ _ Wd (lv_sub hl [1, 0] rfl) hf
  have b81 : ∀ (K39 : Int32 → (Nat → Int32) → (Nat → Int32) → (Nat → Int32) → Int32 → Option (Int32 × (Nat → Int32) × (Nat → Int32) × (Nat → Int32))) (hK39 : ∀ (t_homes : Int32) (t_tried t_who t_then : Nat → Int32) (x1 : Int32) (H1 : Heap) (locs1 : List Loc) (ls1 : Array Slot), gw D A s.heap (wX10_run cI cB cZ cM cJ cK  a_t a_t_text a_t_corners a_t_streets a_t_ends a_t_time a_t_leaders a_t_home a_t_feet a_t_far a_t_now a_t_isKept a_t_tried a_t_row a_t_who a_t_then a_t_best a_t_seenAs a_t_seenAt a_t_plan t_trace t_typed t_at t_start t_sort t_value t_fault t_rowLong t_homes t_bestValue t_seen t_planMany t_streets t_ends t_time t_home t_feet t_far t_now t_tried t_row t_who t_then) H1 locs1 → lv_has ls1 2 [(0, .ref a_t), (1, .int x1)] → F = K39 t_homes t_tried t_who t_then x1 → W p l e rmX10_run s m [.ref a_t].toArray below meth c H1 locs1 0 0 (MQ below (gQ F (fun _u : Int32 × (Nat → Int32) × (Nat → Int32) × (Nat → Int32) => none) (fun _u : Int32 × (Nat → Int32) × (Nat → Int32) × (Nat → Int32) => (wX10_run cI cB cZ cM cJ cK  a_t a_t_text a_t_corners a_t_streets a_t_ends a_t_time a_t_leaders a_t_home a_t_feet a_t_far a_t_now a_t_isKept a_t_tried a_t_row a_t_who a_t_then a_t_best a_t_seenAs a_t_seenAt a_t_plan t_trace t_typed t_at t_start t_sort t_value t_fault t_rowLong _u.1 t_bestValue t_seen t_planMany t_streets t_ends t_time t_home t_feet t_far t_now _u.2.1 t_row _u.2.2.1 _u.2.2.2)) D A) [.ref a_t].toArray s 0 0 A) (F0 m 39 ls1 [])) , ∀ (t_homes : Int32) (t_tried t_who t_then : Nat → Int32) (x1 : Int32) (H1 : Heap) (locs1 : List Loc) (ls1 : Array Slot), gw D A s.heap (wX10_run cI cB cZ cM cJ cK  a_t a_t_text a_t_corners a_t_streets a_t_ends a_t_time a_t_leaders a_t_home a_t_feet a_t_far a_t_now a_t_isKept a_t_tried a_t_row a_t_who a_t_then a_t_best a_t_seenAs a_t_seenAt a_t_plan t_trace t_typed t_at t_start t_sort t_value t_fault t_rowLong t_homes t_bestValue t_seen t_planMany t_streets t_ends t_time t_home t_feet t_far t_now t_tried t_row t_who t_then) H1 locs1 → lv_has ls1 2 [(0, .ref a_t), (1, .int x1)] → F = fX10_run_b81 N t_rowLong t_streets t_ends t_time t_home t_feet t_far t_now t_row K39 t_homes t_tried t_who t_then x1 → W p l e rmX10_run s m [.ref a_t].toArray below meth c H1 locs1 0 0 (MQ below (gQ F (fun _u : Int32 × (Nat → Int32) × (Nat → Int32) × (Nat → Int32) => none) (fun _u : Int32 × (Nat → Int32) × (Nat → Int32) × (Nat → Int32) => (wX10_run cI cB cZ cM cJ cK  a_t a_t_text a_t_corners a_t_streets a_t_ends a_t_time a_t_leaders a_t_home a_t_feet a_t_far a_t_now a_t_isKept a_t_tried a_t_row a_t_who a_t_then a_t_best a_t_seenAs a_t_seenAt a_t_plan t_trace t_typed t_at t_start t_sort t_value t_fault t_rowLong _u.1 t_bestValue t_seen t_planMany t_streets t_ends t_time t_home t_feet t_far t_now _u.2.1 t_row _u.2.2.1 _u.2.2.2)) D A) [.ref a_t].toArray s 0 0 A) (F0 m 81 ls1 []) := by
    intro K39 hK39 t_homes t_tried t_who t_then x1 H locs ls Wd hl hf
    refine lv_aload_n S.1 S.2.1 dX10_run_81 rfl (lv_at hl 0 rfl) ?_
    refine g_get (a := a_t) S hK Wd iX10_run_X10 0 rfl rfl 22 rfl rfl kX10_run_6 rfl dX10_run_82 ?_
    refine lv_iload_n S.1 S.2.1 dX10_run_85 rfl (lv_at hl 1 rfl) ?_
    refine lv_aload_n S.1 S.2.1 dX10_run_86 rfl (lv_at hl 0 rfl) ?_
    refine g_get (a := a_t) S hK Wd iX10_run_X10 0 rfl rfl 18 rfl rfl kX10_run_5 rfl dX10_run_87 ?_
    refine lv_iconst (v := 0) S.1 S.2.1 dX10_run_90 (by decide) ?_
    refine g_iald (a := a_t_tried) S hK Wd 8 0 rfl rfl (show ¬ (((0 : Int32) < 0) ∨ 17 ≤ Int32.toNatClampNeg (0 : Int32)) from by decide) dX10_run_91 ?_
    obtain ⟨h10, hf⟩ := g_gi hF hf
    refine g_iast (a := a_t_then) (ws' := (wX10_run cI cB cZ cM cJ cK  a_t a_t_text a_t_corners a_t_streets a_t_ends a_t_time a_t_leaders a_t_home a_t_feet a_t_far a_t_now a_t_isKept a_t_tried a_t_row a_t_who a_t_then a_t_best a_t_seenAs a_t_seenAt a_t_plan t_trace t_typed t_at t_start t_sort t_value t_fault t_rowLong t_homes t_bestValue t_seen t_planMany t_streets t_ends t_time t_home t_feet t_far t_now t_tried t_row t_who (upd t_then x1.toNatClampNeg (t_tried (0 : Int32).toNatClampNeg)))) S hK Wd 11 0 rfl rfl h10 dX10_run_92 rfl (fun H locs Wd => ?_)
    refine lv_aload_n S.1 S.2.1 dX10_run_93 rfl (lv_at hl 0 rfl) ?_
    refine lv_dup S.1 S.2.1 dX10_run_94 rfl ?_
    refine g_get (a := a_t) S hK Wd iX10_run_X10 0 rfl rfl 23 rfl rfl kX10_run_1 rfl dX10_run_95 ?_
    refine lv_aload_n S.1 S.2.1 dX10_run_98 rfl (lv_at hl 0 rfl) ?_
    refine g_get (a := a_t) S hK Wd iX10_run_X10 0 rfl rfl 22 rfl rfl kX10_run_6 rfl dX10_run_99 ?_
    refine lv_iload_n S.1 S.2.1 dX10_run_102 rfl (lv_at hl 1 rfl) ?_
    obtain ⟨h11, hf⟩ := g_gi hF hf
    refine g_iald (a := a_t_then) S hK Wd 11 0 rfl rfl h11 dX10_run_103 ?_
    refine lv_aload_n S.1 S.2.1 dX10_run_104 rfl (lv_at hl 0 rfl) ?_
    refine g_get (a := a_t) S hK Wd iX10_run_X10 0 rfl rfl 8 rfl rfl kX10_run_7 rfl dX10_run_105 ?_
    refine lv_aload_n S.1 S.2.1 dX10_run_108 rfl (lv_at hl 0 rfl) ?_
    refine g_get (a := a_t) S hK Wd iX10_run_X10 0 rfl rfl 21 rfl rfl kX10_run_3 rfl dX10_run_109 ?_
    refine lv_iload_n S.1 S.2.1 dX10_run_112 rfl (lv_at hl 1 rfl) ?_
    obtain ⟨h12, hf⟩ := g_gi hF hf
    refine g_iald (a := a_t_who) S hK Wd 10 0 rfl rfl h12 dX10_run_113 ?_
    obtain ⟨h13, hf⟩ := g_gi hF hf
    refine g_iald (a := a_t_home) S hK Wd 4 0 rfl rfl h13 dX10_run_114 ?_
    refine lv_icmp_ne (tgt := 122) S.1 S.2.1 dX10_run_115 rfl (fun c14 => ?_) (fun c14 => ?_)
    · have hf := g_ifn hf c14
      refine lv_iconst (v := 0) S.1 S.2.1 dX10_run_122 (by decide) ?_
      exact b123 K39 hK39 t_homes t_tried t_who (upd t_then x1.toNatClampNeg (t_tried (0 : Int32).toNatClampNeg)) x1 (0 : Int32) t_homes _ _ _ Wd hl hf
    · have hf := g_if hf c14
      refine lv_iconst (v := 1) S.1 S.2.1 dX10_run_118 (by decide) ?_
      refine lv_goto (tgt := 123) S.1 S.2.1 dX10_run_119 rfl ?_
      exact b123 K39 hK39 t_homes t_tried t_who (upd t_then x1.toNatClampNeg (t_tried (0 : Int32).toNatClampNeg)) x1 (1 : Int32) t_homes _ _ _ Wd hl hf
  have b39 : ∀ (n : Nat), ∀ (t_homes : Int32) (t_tried t_who t_then : Nat → Int32) (x1 : Int32) (H1 : Heap) (locs1 : List Loc) (ls1 : Array Slot), gw D A s.heap (wX10_run cI cB cZ cM cJ cK  a_t a_t_text a_t_corners a_t_streets a_t_ends a_t_time a_t_leaders a_t_home a_t_feet a_t_far a_t_now a_t_isKept a_t_tried a_t_row a_t_who a_t_then a_t_best a_t_seenAs a_t_seenAt a_t_plan t_trace t_typed t_at t_start t_sort t_value t_fault t_rowLong t_homes t_bestValue t_seen t_planMany t_streets t_ends t_time t_home t_feet t_far t_now t_tried t_row t_who t_then) H1 locs1 → lv_has ls1 2 [(0, .ref a_t), (1, .int x1)] → F = fX10_run_b39 N t_rowLong t_streets t_ends t_time t_home t_feet t_far t_now t_row  n t_homes t_tried t_who t_then x1 → W p l e rmX10_run s m [.ref a_t].toArray below meth c H1 locs1 0 0 (MQ below (gQ F (fun _u : Int32 × (Nat → Int32) × (Nat → Int32) × (Nat → Int32) => none) (fun _u : Int32 × (Nat → Int32) × (Nat → Int32) × (Nat → Int32) => (wX10_run cI cB cZ cM cJ cK  a_t a_t_text a_t_corners a_t_streets a_t_ends a_t_time a_t_leaders a_t_home a_t_feet a_t_far a_t_now a_t_isKept a_t_tried a_t_row a_t_who a_t_then a_t_best a_t_seenAs a_t_seenAt a_t_plan t_trace t_typed t_at t_start t_sort t_value t_fault t_rowLong _u.1 t_bestValue t_seen t_planMany t_streets t_ends t_time t_home t_feet t_far t_now _u.2.1 t_row _u.2.2.1 _u.2.2.2)) D A) [.ref a_t].toArray s 0 0 A) (F0 m 39 ls1 []) := by
    intro  n
    induction n with
    | zero => intro t_homes t_tried t_who t_then x1 H locs ls Wd hl hf; exact absurd hf hF
    | succ n ih =>
      intro t_homes t_tried t_who t_then x1 H locs ls Wd hl hf
      refine lv_iload_n S.1 S.2.1 dX10_run_39 rfl (lv_at hl 1 rfl) ?_
      refine lv_aload_n S.1 S.2.1 dX10_run_40 rfl (lv_at hl 0 rfl) ?_
      refine g_get (a := a_t) S hK Wd iX10_run_X10 0 rfl rfl 20 rfl rfl kX10_run_2 rfl dX10_run_41 ?_
      refine lv_icmp_ge (tgt := 133) S.1 S.2.1 dX10_run_44 rfl (fun c5 => ?_) (fun c5 => ?_)
      · have hf := g_if hf c5
        exact g_vret S Wd hr hlk dX10_run_133 (t_homes, t_tried, t_who, t_then) hf rfl rfl
      · have hf := g_ifn hf c5
        refine lv_aload_n S.1 S.2.1 dX10_run_47 rfl (lv_at hl 0 rfl) ?_
        refine lv_aload_n S.1 S.2.1 dX10_run_48 rfl (lv_at hl 0 rfl) ?_
        refine g_get (a := a_t) S hK Wd iX10_run_X10 0 rfl rfl 18 rfl rfl kX10_run_5 rfl dX10_run_49 ?_
        refine lv_aload_n S.1 S.2.1 dX10_run_52 rfl (lv_at hl 0 rfl) ?_
        refine g_get (a := a_t) S hK Wd iX10_run_X10 0 rfl rfl 21 rfl rfl kX10_run_3 rfl dX10_run_53 ?_
        refine lv_iload_n S.1 S.2.1 dX10_run_56 rfl (lv_at hl 1 rfl) ?_
        obtain ⟨h6, hf⟩ := g_gi hF hf
        refine g_iald (a := a_t_who) S hK Wd 10 0 rfl rfl h6 dX10_run_57 ?_
        obtain ⟨u7, hu7, hf⟩ := g_bind hF hf
        refine g_callV (ws' := (wX10_run cI cB cZ cM cJ cK  a_t a_t_text a_t_corners a_t_streets a_t_ends a_t_time a_t_leaders a_t_home a_t_feet a_t_far a_t_now a_t_isKept a_t_tried a_t_row a_t_who a_t_then a_t_best a_t_seenAs a_t_seenAt a_t_plan t_trace t_typed t_at t_start t_sort t_value t_fault t_rowLong t_homes t_bestValue t_seen t_planMany t_streets t_ends t_time t_home t_feet t_far t_now u7.2 t_row t_who t_then)) (As := [.ref a_t_tried, .int (t_who x1.toNatClampNeg)]) (rest := []) (st1 := [.int u7.1]) S hK hA Wd (c_X10_lead l D N cI cB cZ cM cJ cK 17 a_t a_t_text a_t_corners a_t_streets a_t_ends a_t_time a_t_leaders a_t_home a_t_feet a_t_far a_t_now a_t_isKept a_t_tried a_t_row a_t_who a_t_then a_t_best a_t_seenAs a_t_seenAt a_t_plan a_t_tried t_trace t_typed t_at t_start t_sort t_value t_fault t_rowLong t_homes t_bestValue t_seen t_planMany t_streets t_ends t_time t_home t_feet t_far t_tried (t_who x1.toNatClampNeg)) (cwV 2 S.2.2.2.2 gX10_run_X10_lead rfl rfl rfl n_X10_lead ⟨Nat.le_of_ble_eq_true rfl, Nat.le_of_ble_eq_true rfl⟩) hu7 [0, 1, 2, 3, 4, 5, 6, 8] rfl rfl 0 10 rfl rfl rfl rfl rfl rfl rfl hl.1 rfl (Nat.le_of_ble_eq_true rfl) dX10_run_58 ⟨Nat.zero_le _, Nat.zero_le _⟩ (fun H locs Wd => ?_)
        refine lv_if_eq (tgt := 81) S.1 S.2.1 dX10_run_61 rfl (fun c8 => ?_) (fun c8 => ?_)
        · have hf := g_if hf c8
          exact b81 (fun t_homes t_tried t_who t_then x1 => fX10_run_b39 N t_rowLong t_streets t_ends t_time t_home t_feet t_far t_now t_row n t_homes t_tried t_who t_then x1) ih t_homes u7.2 t_who t_then x1 _ _ _ Wd hl hf
        · have hf := g_ifn hf c8
          refine lv_aload_n S.1 S.2.1 dX10_run_64 rfl (lv_at hl 0 rfl) ?_
          refine lv_aload_n S.1 S.2.1 dX10_run_65 rfl (lv_at hl 0 rfl) ?_
          refine g_get (a := a_t) S hK Wd iX10_run_X10 0 rfl rfl 21 rfl rfl kX10_run_3 rfl dX10_run_66 ?_
          refine lv_iload_n S.1 S.2.1 dX10_run_69 rfl (lv_at hl 1 rfl) ?_
          refine lv_iconst (v := 1) S.1 S.2.1 dX10_run_70 (by decide) ?_
          refine lv_iadd S.1 S.2.1 dX10_run_71 ?_
          refine lv_aload_n S.1 S.2.1 dX10_run_72 rfl (lv_at hl 0 rfl) ?_
          refine g_get (a := a_t) S hK Wd iX10_run_X10 0 rfl rfl 20 rfl rfl kX10_run_2 rfl dX10_run_73 ?_
          refine lv_iconst (v := 1) S.1 S.2.1 dX10_run_76 (by decide) ?_
          refine lv_isub S.1 S.2.1 dX10_run_77 ?_
          obtain ⟨u9, hu9, hf⟩ := g_bind hF hf
          refine g_callV (ws' := (wX10_run cI cB cZ cM cJ cK  a_t a_t_text a_t_corners a_t_streets a_t_ends a_t_time a_t_leaders a_t_home a_t_feet a_t_far a_t_now a_t_isKept a_t_tried a_t_row a_t_who a_t_then a_t_best a_t_seenAs a_t_seenAt a_t_plan t_trace t_typed t_at t_start t_sort t_value t_fault t_rowLong t_homes t_bestValue t_seen t_planMany t_streets t_ends t_time t_home t_feet t_far t_now u7.2 t_row u9 t_then)) (As := [.ref a_t_who, .int (x1 + (1 : Int32)), .int (t_rowLong - (1 : Int32))]) (rest := []) (st1 := []) S hK hA Wd (c_X10_turnFrom l D N cI cB cZ cM cJ cK 6 a_t a_t_text a_t_corners a_t_streets a_t_ends a_t_time a_t_leaders a_t_home a_t_feet a_t_far a_t_now a_t_isKept a_t_tried a_t_row a_t_who a_t_then a_t_best a_t_seenAs a_t_seenAt a_t_plan a_t_who t_trace t_typed t_at t_start t_sort t_value t_fault t_rowLong t_homes t_bestValue t_seen t_planMany t_who (x1 + (1 : Int32)) (t_rowLong - (1 : Int32))) (cwV 3 S.2.2.2.2 gX10_run_X10_turnFrom rfl rfl rfl n_X10_turnFrom ⟨Nat.le_of_ble_eq_true rfl, Nat.le_of_ble_eq_true rfl⟩) hu9 [0, 10] rfl rfl 0 10 rfl rfl rfl rfl rfl rfl rfl hl.1 rfl (Nat.le_of_ble_eq_true rfl) dX10_run_78 ⟨Nat.zero_le _, Nat.zero_le _⟩ (fun H locs Wd => ?_)
          exact b81 (fun t_homes t_tried t_who t_then x1 => fX10_run_b39 N t_rowLong t_streets t_ends t_time t_home t_feet t_far t_now t_row n t_homes t_tried t_who t_then x1) ih t_homes u7.2 u9 t_then x1 _ _ _ Wd hl hf
  have b11 : ∀ (n : Nat), ∀ (t_homes : Int32) (t_tried t_who t_then : Nat → Int32) (x1 : Int32) (H1 : Heap) (locs1 : List Loc) (ls1 : Array Slot), gw D A s.heap (wX10_run cI cB cZ cM cJ cK  a_t a_t_text a_t_corners a_t_streets a_t_ends a_t_time a_t_leaders a_t_home a_t_feet a_t_far a_t_now a_t_isKept a_t_tried a_t_row a_t_who a_t_then a_t_best a_t_seenAs a_t_seenAt a_t_plan t_trace t_typed t_at t_start t_sort t_value t_fault t_rowLong t_homes t_bestValue t_seen t_planMany t_streets t_ends t_time t_home t_feet t_far t_now t_tried t_row t_who t_then) H1 locs1 → lv_has ls1 2 [(0, .ref a_t), (1, .int x1)] → F = fX10_run_b11 N t_rowLong t_streets t_ends t_time t_home t_feet t_far t_now t_row  n t_homes t_tried t_who t_then x1 → W p l e rmX10_run s m [.ref a_t].toArray below meth c H1 locs1 0 0 (MQ below (gQ F (fun _u : Int32 × (Nat → Int32) × (Nat → Int32) × (Nat → Int32) => none) (fun _u : Int32 × (Nat → Int32) × (Nat → Int32) × (Nat → Int32) => (wX10_run cI cB cZ cM cJ cK  a_t a_t_text a_t_corners a_t_streets a_t_ends a_t_time a_t_leaders a_t_home a_t_feet a_t_far a_t_now a_t_isKept a_t_tried a_t_row a_t_who a_t_then a_t_best a_t_seenAs a_t_seenAt a_t_plan t_trace t_typed t_at t_start t_sort t_value t_fault t_rowLong _u.1 t_bestValue t_seen t_planMany t_streets t_ends t_time t_home t_feet t_far t_now _u.2.1 t_row _u.2.2.1 _u.2.2.2)) D A) [.ref a_t].toArray s 0 0 A) (F0 m 11 ls1 []) := by
    intro  n
    induction n with
    | zero => intro t_homes t_tried t_who t_then x1 H locs ls Wd hl hf; exact absurd hf hF
    | succ n ih =>
      intro t_homes t_tried t_who t_then x1 H locs ls Wd hl hf
      refine lv_iload_n S.1 S.2.1 dX10_run_11 rfl (lv_at hl 1 rfl) ?_
      refine lv_aload_n S.1 S.2.1 dX10_run_12 rfl (lv_at hl 0 rfl) ?_
      refine g_get (a := a_t) S hK Wd iX10_run_X10 0 rfl rfl 20 rfl rfl kX10_run_2 rfl dX10_run_13 ?_
      refine lv_icmp_ge (tgt := 37) S.1 S.2.1 dX10_run_16 rfl (fun c2 => ?_) (fun c2 => ?_)
      · have hf := g_if hf c2
        refine lv_iconst (v := 0) S.1 S.2.1 dX10_run_37 (by decide) ?_
        refine lv_istore_n (lv' := [(1, .int (0 : Int32)), (0, .ref a_t)]) S.1 S.2.1 dX10_run_38 rfl hl (by decide) rfl (fun ls hl => ?_)
        exact b39  N t_homes t_tried t_who t_then (0 : Int32) _ _ _ Wd (lv_sub hl [1, 0] rfl) hf
      · have hf := g_ifn hf c2
        refine lv_aload_n S.1 S.2.1 dX10_run_19 rfl (lv_at hl 0 rfl) ?_
        refine g_get (a := a_t) S hK Wd iX10_run_X10 0 rfl rfl 21 rfl rfl kX10_run_3 rfl dX10_run_20 ?_
        refine lv_iload_n S.1 S.2.1 dX10_run_23 rfl (lv_at hl 1 rfl) ?_
        refine lv_aload_n S.1 S.2.1 dX10_run_24 rfl (lv_at hl 0 rfl) ?_
        refine g_get (a := a_t) S hK Wd iX10_run_X10 0 rfl rfl 19 rfl rfl kX10_run_4 rfl dX10_run_25 ?_
        refine lv_iload_n S.1 S.2.1 dX10_run_28 rfl (lv_at hl 1 rfl) ?_
        obtain ⟨h3, hf⟩ := g_gi hF hf
        refine g_iald (a := a_t_row) S hK Wd 9 0 rfl rfl h3 dX10_run_29 ?_
        obtain ⟨h4, hf⟩ := g_gi hF hf
        refine g_iast (a := a_t_who) (ws' := (wX10_run cI cB cZ cM cJ cK  a_t a_t_text a_t_corners a_t_streets a_t_ends a_t_time a_t_leaders a_t_home a_t_feet a_t_far a_t_now a_t_isKept a_t_tried a_t_row a_t_who a_t_then a_t_best a_t_seenAs a_t_seenAt a_t_plan t_trace t_typed t_at t_start t_sort t_value t_fault t_rowLong t_homes t_bestValue t_seen t_planMany t_streets t_ends t_time t_home t_feet t_far t_now t_tried t_row (upd t_who x1.toNatClampNeg (t_row x1.toNatClampNeg)) t_then)) S hK Wd 10 0 rfl rfl h4 dX10_run_30 rfl (fun H locs Wd => ?_)
        refine lv_iinc (v := (x1 + (1 : Int32))) (lv' := [(1, .int (x1 + (1 : Int32))), (0, .ref a_t)]) S.1 S.2.1 dX10_run_31 hl (k := 1) rfl rfl (by decide) rfl (fun ls hl => ?_)
        refine lv_goto (tgt := 11) S.1 S.2.1 dX10_run_34 rfl ?_
        exact ih t_homes t_tried (upd t_who x1.toNatClampNeg (t_row x1.toNatClampNeg)) t_then (x1 + (1 : Int32)) _ _ _ Wd (lv_sub hl [1, 0] rfl) hf
  refine lv_aload_n S.1 S.2.1 dX10_run_0 rfl (lv_at hl 0 rfl) ?_
  obtain ⟨u1, hu1, hf⟩ := g_bind hF hf
  refine g_callV (ws' := (wX10_run cI cB cZ cM cJ cK  a_t a_t_text a_t_corners a_t_streets a_t_ends a_t_time a_t_leaders a_t_home a_t_feet a_t_far a_t_now a_t_isKept a_t_tried a_t_row a_t_who a_t_then a_t_best a_t_seenAs a_t_seenAt a_t_plan t_trace t_typed t_at t_start t_sort t_value t_fault t_rowLong t_homes t_bestValue t_seen t_planMany t_streets t_ends t_time t_home t_feet t_far t_now u1 t_row t_who t_then)) (As := []) (rest := []) (st1 := []) S hK hA Wd (c_X10_take l D N cI cB cZ cM cJ cK a_t a_t_text a_t_corners a_t_streets a_t_ends a_t_time a_t_leaders a_t_home a_t_feet a_t_far a_t_now a_t_isKept a_t_tried a_t_row a_t_who a_t_then a_t_best a_t_seenAs a_t_seenAt a_t_plan t_trace t_typed t_at t_start t_sort t_value t_fault t_rowLong t_homes t_bestValue t_seen t_planMany t_now t_tried) (cwV 0 S.2.2.2.2 gX10_run_X10_take rfl rfl rfl n_X10_take ⟨Nat.le_of_ble_eq_true rfl, Nat.le_of_ble_eq_true rfl⟩) hu1 [0, 7, 8] rfl rfl 0 10 rfl rfl rfl rfl rfl rfl rfl hl.1 rfl (Nat.le_of_ble_eq_true rfl) dX10_run_1 ⟨Nat.zero_le _, Nat.zero_le _⟩ (fun H locs Wd => ?_)
  refine lv_aload_n S.1 S.2.1 dX10_run_4 rfl (lv_at hl 0 rfl) ?_
  refine lv_iconst (v := 0) S.1 S.2.1 dX10_run_5 (by decide) ?_
  refine g_put (a := a_t) (ws' := (wX10_run cI cB cZ cM cJ cK  a_t a_t_text a_t_corners a_t_streets a_t_ends a_t_time a_t_leaders a_t_home a_t_feet a_t_far a_t_now a_t_isKept a_t_tried a_t_row a_t_who a_t_then a_t_best a_t_seenAs a_t_seenAt a_t_plan t_trace t_typed t_at t_start t_sort t_value t_fault t_rowLong (0 : Int32) t_bestValue t_seen t_planMany t_streets t_ends t_time t_home t_feet t_far t_now u1 t_row t_who t_then)) S hK Wd iX10_run_X10 tyX10 tyX10_ok nmX10 0 rfl rfl 23 rfl rfl kX10_run_1 rfl rfl rfl dX10_run_6 rfl (fun H locs Wd => ?_)
  refine lv_iconst (v := 0) S.1 S.2.1 dX10_run_9 (by decide) ?_
  refine lv_istore_n (lv' := [(1, .int (0 : Int32)), (0, .ref a_t)]) S.1 S.2.1 dX10_run_10 rfl hl (by decide) rfl (fun ls hl => ?_)
  exact b11  N (0 : Int32) u1 t_who t_then (0 : Int32) _ _ _ Wd (lv_sub hl [1, 0] rfl) hf
def wX10_isAtDoor (cI cB cZ cM cJ cK : ClassId) (a_t a_t_text a_t_corners a_t_streets a_t_ends a_t_time a_t_leaders a_t_home a_t_feet a_t_far a_t_now a_t_isKept a_t_tried a_t_row a_t_who a_t_then a_t_best a_t_seenAs a_t_seenAt a_t_plan : Nat) (t_trace : Int64) (t_typed t_at t_start t_sort t_value t_fault t_rowLong t_homes t_bestValue t_seen t_planMany : Int32) (t_corners t_tried : Nat → Int32) : List va_W := [[(a_t, .inr (10, [.long t_trace, .ref a_t_text, .int t_typed, .ref a_t_corners, .ref a_t_streets, .ref a_t_ends, .ref a_t_time, .ref a_t_leaders, .ref a_t_home, .ref a_t_feet, .int t_at, .int t_start, .int t_sort, .int t_value, .int t_fault, .ref a_t_far, .ref a_t_now, .ref a_t_isKept, .ref a_t_tried, .ref a_t_row, .int t_rowLong, .ref a_t_who, .ref a_t_then, .int t_homes, .ref a_t_best, .int t_bestValue, .ref a_t_seenAs, .ref a_t_seenAt, .int t_seen, .ref a_t_plan, .int t_planMany]))], [(a_t_corners, .inl (cI, 2, .inl t_corners))], [(a_t_tried, .inl (cI, 17, .inl t_tried))]]
def rmX10_isAtDoor : Room := { frames := 0, cells := 0, slots := 0, locals := 0 }
theorem kX10_isAtDoor_1 : Cond.fieldLink RX10 13 "FeastMarchModel" "corners" "[I" ∈ wsX10_isAtDoor := List.mem_of_getElem? (i := 1) rfl
theorem kX10_isAtDoor_2 : Cond.fieldLink RX10 45 "FeastMarchModel" "tried" "[I" ∈ wsX10_isAtDoor := List.mem_of_getElem? (i := 2) rfl
theorem iX10_isAtDoor_X10 : ∀ w ∈ wsX100, w ∈ wsX10_isAtDoor := fun _ h => List.mem_cons_of_mem _ (List.mem_append_right _ h)
theorem n_X10_isAtDoor : yX10_isAtDoor.cls = RX10 ∧ yX10_isAtDoor.cls ≠ "java/lang/invoke/MethodHandle" ∧ yX10_isAtDoor.cls ≠ "java/lang/invoke/VarHandle" ∧ (parseMethodDescriptor yX10_isAtDoor.desc).map (fun d => d.parameters.length) = some 0 := by decide +kernel
set_option maxHeartbeats 4000000 in
set_option maxRecDepth 100000 in
theorem c_X10_isAtDoor (l : Launch) (D : va_G) (N : Nat) (cI cB cZ cM cJ cK : ClassId) (a_t a_t_text a_t_corners a_t_streets a_t_ends a_t_time a_t_leaders a_t_home a_t_feet a_t_far a_t_now a_t_isKept a_t_tried a_t_row a_t_who a_t_then a_t_best a_t_seenAs a_t_seenAt a_t_plan : Nat) (t_trace : Int64) (t_typed t_at t_start t_sort t_value t_fault t_rowLong t_homes t_bestValue t_seen t_planMany : Int32) (t_corners t_tried : Nat → Int32) : gM l yX10_isAtDoor wsX10_isAtDoor rmX10_isAtDoor D (gT cI cB cZ cM cJ cK) (wX10_isAtDoor cI cB cZ cM cJ cK  a_t a_t_text a_t_corners a_t_streets a_t_ends a_t_time a_t_leaders a_t_home a_t_feet a_t_far a_t_now a_t_isKept a_t_tried a_t_row a_t_who a_t_then a_t_best a_t_seenAs a_t_seenAt a_t_plan t_trace t_typed t_at t_start t_sort t_value t_fault t_rowLong t_homes t_bestValue t_seen t_planMany t_corners t_tried) [.ref a_t] (fX10_isAtDoor N t_corners t_tried) (fun _u : Int32 => some (.int _u)) (fun _u : Int32 => (wX10_isAtDoor cI cB cZ cM cJ cK  a_t a_t_text a_t_corners a_t_streets a_t_ends a_t_time a_t_leaders a_t_home a_t_feet a_t_far a_t_now a_t_isKept a_t_tried a_t_row a_t_who a_t_then a_t_best a_t_seenAs a_t_seenAt a_t_plan t_trace t_typed t_at t_start t_sort t_value t_fault t_rowLong t_homes t_bestValue t_seen t_planMany t_corners t_tried)) := by
  refine g_start (cc := cX10_isAtDoor) (maxL := 1) (ret := (some .boolean)) (by decide) rfl (Nat.le_of_ble_eq_true rfl) ?_
  intro F hf hF p e s m below meth c A ls S hK hA Wd hr hlk hnm hl
  refine lv_aload_n S.1 S.2.1 dX10_isAtDoor_0 rfl (lv_at hl 0 rfl) ?_
  refine g_get (a := a_t) S hK Wd iX10_isAtDoor_X10 0 rfl rfl 3 rfl rfl kX10_isAtDoor_1 rfl dX10_isAtDoor_1 ?_
  refine lv_iconst (v := 0) S.1 S.2.1 dX10_isAtDoor_4 (by decide) ?_
  refine g_iald (a := a_t_corners) S hK Wd 1 0 rfl rfl (show ¬ (((0 : Int32) < 0) ∨ 2 ≤ Int32.toNatClampNeg (0 : Int32)) from by decide) dX10_isAtDoor_5 ?_
  refine lv_if_le (tgt := 22) S.1 S.2.1 dX10_isAtDoor_6 rfl (fun c1 => ?_) (fun c1 => ?_)
  · have hf := g_if hf c1
    refine lv_iconst (v := 0) S.1 S.2.1 dX10_isAtDoor_22 (by decide) ?_
    exact g_zret S Wd hr hlk rfl dX10_isAtDoor_23 (0 : Int32) hf rfl rfl
  · have hf := g_ifn hf c1
    refine lv_aload_n S.1 S.2.1 dX10_isAtDoor_9 rfl (lv_at hl 0 rfl) ?_
    refine g_get (a := a_t) S hK Wd iX10_isAtDoor_X10 0 rfl rfl 18 rfl rfl kX10_isAtDoor_2 rfl dX10_isAtDoor_10 ?_
    refine lv_iconst (v := 0) S.1 S.2.1 dX10_isAtDoor_13 (by decide) ?_
    refine g_iald (a := a_t_tried) S hK Wd 2 0 rfl rfl (show ¬ (((0 : Int32) < 0) ∨ 17 ≤ Int32.toNatClampNeg (0 : Int32)) from by decide) dX10_isAtDoor_14 ?_
    refine lv_if_ne (tgt := 22) S.1 S.2.1 dX10_isAtDoor_15 rfl (fun c2 => ?_) (fun c2 => ?_)
    · have hf := g_ifn hf c2
      refine lv_iconst (v := 0) S.1 S.2.1 dX10_isAtDoor_22 (by decide) ?_
      exact g_zret S Wd hr hlk rfl dX10_isAtDoor_23 (0 : Int32) hf rfl rfl
    · have hf := g_if hf c2
      refine lv_iconst (v := 1) S.1 S.2.1 dX10_isAtDoor_18 (by decide) ?_
      refine lv_goto (tgt := 23) S.1 S.2.1 dX10_isAtDoor_19 rfl ?_
      exact g_zret S Wd hr hlk rfl dX10_isAtDoor_23 (1 : Int32) hf rfl rfl
def wX10_findOrder (cI cB cZ cM cJ cK : ClassId) (a_t a_t_text a_t_corners a_t_streets a_t_ends a_t_time a_t_leaders a_t_home a_t_feet a_t_far a_t_now a_t_isKept a_t_tried a_t_row a_t_who a_t_then a_t_best a_t_seenAs a_t_seenAt a_t_plan : Nat) (t_trace : Int64) (t_typed t_at t_start t_sort t_value t_fault t_rowLong t_homes t_bestValue t_seen t_planMany : Int32) (t_corners t_streets t_ends t_time t_leaders t_home t_feet t_far t_now t_tried t_row t_who t_then t_best : Nat → Int32) : List va_W := [[(a_t, .inr (10, [.long t_trace, .ref a_t_text, .int t_typed, .ref a_t_corners, .ref a_t_streets, .ref a_t_ends, .ref a_t_time, .ref a_t_leaders, .ref a_t_home, .ref a_t_feet, .int t_at, .int t_start, .int t_sort, .int t_value, .int t_fault, .ref a_t_far, .ref a_t_now, .ref a_t_isKept, .ref a_t_tried, .ref a_t_row, .int t_rowLong, .ref a_t_who, .ref a_t_then, .int t_homes, .ref a_t_best, .int t_bestValue, .ref a_t_seenAs, .ref a_t_seenAt, .int t_seen, .ref a_t_plan, .int t_planMany]))], [(a_t_corners, .inl (cI, 2, .inl t_corners))], [(a_t_streets, .inl (cI, 2, .inl t_streets))], [(a_t_ends, .inl (cI, 48, .inl t_ends))], [(a_t_time, .inl (cI, 24, .inl t_time))], [(a_t_leaders, .inl (cI, 2, .inl t_leaders))], [(a_t_home, .inl (cI, 12, .inl t_home))], [(a_t_feet, .inl (cI, 12, .inl t_feet))], [(a_t_far, .inl (cI, 64, .inl t_far))], [(a_t_now, .inl (cI, 564, .inl t_now))], [(a_t_tried, .inl (cI, 17, .inl t_tried))], [(a_t_row, .inl (cI, 6, .inl t_row))], [(a_t_who, .inl (cI, 6, .inl t_who))], [(a_t_then, .inl (cI, 6, .inl t_then))], [(a_t_best, .inl (cI, 6, .inl t_best))]]
def rmX10_findOrder : Room := { frames := 3, cells := 0, slots := 0, locals := 75 }
theorem kX10_findOrder_1 : Cond.fieldLink RX10 174 "FeastMarchModel" "bestValue" "I" ∈ wsX10_findOrder := List.mem_of_getElem? (i := 1) rfl
theorem kX10_findOrder_2 : Cond.constant RX10 184 (10000000) ∈ wsX10_findOrder := List.mem_of_getElem? (i := 2) rfl
theorem kX10_findOrder_3 : Cond.fieldLink RX10 45 "FeastMarchModel" "tried" "[I" ∈ wsX10_findOrder := List.mem_of_getElem? (i := 3) rfl
theorem kX10_findOrder_4 : Cond.fieldLink RX10 38 "FeastMarchModel" "now" "[I" ∈ wsX10_findOrder := List.mem_of_getElem? (i := 4) rfl
theorem kX10_findOrder_5 : Cond.fieldLink RX10 158 "FeastMarchModel" "rowLong" "I" ∈ wsX10_findOrder := List.mem_of_getElem? (i := 5) rfl
theorem kX10_findOrder_6 : Cond.fieldLink RX10 57 "FeastMarchModel" "best" "[I" ∈ wsX10_findOrder := List.mem_of_getElem? (i := 6) rfl
theorem kX10_findOrder_7 : Cond.fieldLink RX10 48 "FeastMarchModel" "row" "[I" ∈ wsX10_findOrder := List.mem_of_getElem? (i := 7) rfl
theorem iX10_findOrder_X10 : ∀ w ∈ wsX100, w ∈ wsX10_findOrder := fun _ h => List.mem_cons_of_mem _ (List.mem_append_right _ h)
theorem n_X10_findOrder : yX10_findOrder.cls = RX10 ∧ yX10_findOrder.cls ≠ "java/lang/invoke/MethodHandle" ∧ yX10_findOrder.cls ≠ "java/lang/invoke/VarHandle" ∧ (parseMethodDescriptor yX10_findOrder.desc).map (fun d => d.parameters.length) = some 0 := by decide +kernel
set_option maxHeartbeats 4000000 in
set_option maxRecDepth 100000 in
theorem c_X10_findOrder (l : Launch) (D : va_G) (N : Nat) (cI cB cZ cM cJ cK : ClassId) (a_t a_t_text a_t_corners a_t_streets a_t_ends a_t_time a_t_leaders a_t_home a_t_feet a_t_far a_t_now a_t_isKept a_t_tried a_t_row a_t_who a_t_then a_t_best a_t_seenAs a_t_seenAt a_t_plan : Nat) (t_trace : Int64) (t_typed t_at t_start t_sort t_value t_fault t_rowLong t_homes t_bestValue t_seen t_planMany : Int32) (t_corners t_streets t_ends t_time t_leaders t_home t_feet t_far t_now t_tried t_row t_who t_then t_best : Nat → Int32) : gM l yX10_findOrder wsX10_findOrder rmX10_findOrder D (gT cI cB cZ cM cJ cK) (wX10_findOrder cI cB cZ cM cJ cK  a_t a_t_text a_t_corners a_t_streets a_t_ends a_t_time a_t_leaders a_t_home a_t_feet a_t_far a_t_now a_t_isKept a_t_tried a_t_row a_t_who a_t_then a_t_best a_t_seenAs a_t_seenAt a_t_plan t_trace t_typed t_at t_start t_sort t_value t_fault t_rowLong t_homes t_bestValue t_seen t_planMany t_corners t_streets t_ends t_time t_leaders t_home t_feet t_far t_now t_tried t_row t_who t_then t_best) [.ref a_t] (fX10_findOrder N t_rowLong t_homes t_bestValue t_corners t_streets t_ends t_time t_leaders t_home t_feet t_far t_now t_tried t_row t_who t_then t_best) (fun _u : Int32 × Int32 × Int32 × (Nat → Int32) × (Nat → Int32) × (Nat → Int32) × (Nat → Int32) × (Nat → Int32) => none) (fun _u : Int32 × Int32 × Int32 × (Nat → Int32) × (Nat → Int32) × (Nat → Int32) × (Nat → Int32) × (Nat → Int32) => (wX10_findOrder cI cB cZ cM cJ cK  a_t a_t_text a_t_corners a_t_streets a_t_ends a_t_time a_t_leaders a_t_home a_t_feet a_t_far a_t_now a_t_isKept a_t_tried a_t_row a_t_who a_t_then a_t_best a_t_seenAs a_t_seenAt a_t_plan t_trace t_typed t_at t_start t_sort t_value t_fault _u.1 _u.2.1 _u.2.2.1 t_seen t_planMany t_corners t_streets t_ends t_time t_leaders t_home t_feet t_far t_now _u.2.2.2.1 _u.2.2.2.2.1 _u.2.2.2.2.2.1 _u.2.2.2.2.2.2.1 _u.2.2.2.2.2.2.2)) := by
  refine g_start (cc := cX10_findOrder) (maxL := 4) (ret := none) (by decide) rfl (Nat.le_of_ble_eq_true rfl) ?_
  intro F hf hF p e s m below meth c A ls S hK hA Wd hr hlk hnm hl
  have b116 : ∀ (K12 : Int32 → Int32 → Int32 → (Nat → Int32) → (Nat → Int32) → (Nat → Int32) → (Nat → Int32) → (Nat → Int32) → Int32 → Option (Int32 × Int32 × Int32 × (Nat → Int32) × (Nat → Int32) × (Nat → Int32) × (Nat → Int32) × (Nat → Int32))) (hK12 : ∀ (t_rowLong t_homes t_bestValue : Int32) (t_tried t_row t_who t_then t_best : Nat → Int32) (x1 : Int32) (H1 : Heap) (locs1 : List Loc) (ls1 : Array Slot), gw D A s.heap (wX10_findOrder cI cB cZ cM cJ cK  a_t a_t_text a_t_corners a_t_streets a_t_ends a_t_time a_t_leaders a_t_home a_t_feet a_t_far a_t_now a_t_isKept a_t_tried a_t_row a_t_who a_t_then a_t_best a_t_seenAs a_t_seenAt a_t_plan t_trace t_typed t_at t_start t_sort t_value t_fault t_rowLong t_homes t_bestValue t_seen t_planMany t_corners t_streets t_ends t_time t_leaders t_home t_feet t_far t_now t_tried t_row t_who t_then t_best) H1 locs1 → lv_has ls1 4 [(0, .ref a_t), (1, .int x1)] → F = K12 t_rowLong t_homes t_bestValue t_tried t_row t_who t_then t_best x1 → W p l e rmX10_findOrder s m [.ref a_t].toArray below meth c H1 locs1 0 0 (MQ below (gQ F (fun _u : Int32 × Int32 × Int32 × (Nat → Int32) × (Nat → Int32) × (Nat → Int32) × (Nat → Int32) × (Nat → Int32) => none) (fun _u : Int32 × Int32 × Int32 × (Nat → Int32) × (Nat → Int32) × (Nat → Int32) × (Nat → Int32) × (Nat → Int32) => (wX10_findOrder cI cB cZ cM cJ cK  a_t a_t_text a_t_corners a_t_streets a_t_ends a_t_time a_t_leaders a_t_home a_t_feet a_t_far a_t_now a_t_isKept a_t_tried a_t_row a_t_who a_t_then a_t_best a_t_seenAs a_t_seenAt a_t_plan t_trace t_typed t_at t_start t_sort t_value t_fault _u.1 _u.2.1 _u.2.2.1 t_seen t_planMany t_corners t_streets t_ends t_time t_leaders t_home t_feet t_far t_now _u.2.2.2.1 _u.2.2.2.2.1 _u.2.2.2.2.2.1 _u.2.2.2.2.2.2.1 _u.2.2.2.2.2.2.2)) D A) [.ref a_t].toArray s 0 0 A) (F0 m 12 ls1 [])) , ∀ (t_rowLong t_homes t_bestValue : Int32) (t_tried t_row t_who t_then t_best : Nat → Int32) (H1 : Heap) (locs1 : List Loc) (ls1 : Array Slot), gw D A s.heap (wX10_findOrder cI cB cZ cM cJ cK  a_t a_t_text a_t_corners a_t_streets a_t_ends a_t_time a_t_leaders a_t_home a_t_feet a_t_far a_t_now a_t_isKept a_t_tried a_t_row a_t_who a_t_then a_t_best a_t_seenAs a_t_seenAt a_t_plan t_trace t_typed t_at t_start t_sort t_value t_fault t_rowLong t_homes t_bestValue t_seen t_planMany t_corners t_streets t_ends t_time t_leaders t_home t_feet t_far t_now t_tried t_row t_who t_then t_best) H1 locs1 → lv_has ls1 4 [(0, .ref a_t)] → F = fX10_findOrder_b116 N t_corners t_streets t_ends t_time t_leaders t_home t_feet t_far t_now K12 t_rowLong t_homes t_bestValue t_tried t_row t_who t_then t_best → W p l e rmX10_findOrder s m [.ref a_t].toArray below meth c H1 locs1 0 0 (MQ below (gQ F (fun _u : Int32 × Int32 × Int32 × (Nat → Int32) × (Nat → Int32) × (Nat → Int32) × (Nat → Int32) × (Nat → Int32) => none) (fun _u : Int32 × Int32 × Int32 × (Nat → Int32) × (Nat → Int32) × (Nat → Int32) × (Nat → Int32) × (Nat → Int32) => (wX10_findOrder cI cB cZ cM cJ cK  a_t a_t_text a_t_corners a_t_streets a_t_ends a_t_time a_t_leaders a_t_home a_t_feet a_t_far a_t_now a_t_isKept a_t_tried a_t_row a_t_who a_t_then a_t_best a_t_seenAs a_t_seenAt a_t_plan t_trace t_typed t_at t_start t_sort t_value t_fault _u.1 _u.2.1 _u.2.2.1 t_seen t_planMany t_corners t_streets t_ends t_time t_leaders t_home t_feet t_far t_now _u.2.2.2.1 _u.2.2.2.2.1 _u.2.2.2.2.2.1 _u.2.2.2.2.2.2.1 _u.2.2.2.2.2.2.2)) D A) [.ref a_t].toArray s 0 0 A) (F0 m 116 ls1 []) := by
    intro K12 hK12 t_rowLong t_homes t_bestValue t_tried t_row t_who t_then t_best H locs ls Wd hl hf
    refine lv_aload_n S.1 S.2.1 dX10_findOrder_116 rfl (lv_at hl 0 rfl) ?_
    obtain ⟨u8, hu8, hf⟩ := g_bind hF hf
    refine g_callV (ws' := (wX10_findOrder cI cB cZ cM cJ cK  a_t a_t_text a_t_corners a_t_streets a_t_ends a_t_time a_t_leaders a_t_home a_t_feet a_t_far a_t_now a_t_isKept a_t_tried a_t_row a_t_who a_t_then a_t_best a_t_seenAs a_t_seenAt a_t_plan t_trace t_typed t_at t_start t_sort t_value t_fault t_rowLong t_homes t_bestValue t_seen t_planMany t_corners t_streets t_ends t_time t_leaders t_home t_feet t_far t_now t_tried u8.2 t_who t_then t_best)) (As := []) (rest := []) (st1 := [.int u8.1]) S hK hA Wd (c_X10_nextRow l D N cI cB cZ cM cJ cK a_t a_t_text a_t_corners a_t_streets a_t_ends a_t_time a_t_leaders a_t_home a_t_feet a_t_far a_t_now a_t_isKept a_t_tried a_t_row a_t_who a_t_then a_t_best a_t_seenAs a_t_seenAt a_t_plan t_trace t_typed t_at t_start t_sort t_value t_fault t_rowLong t_homes t_bestValue t_seen t_planMany t_row) (cwV 0 S.2.2.2.2 gX10_findOrder_X10_nextRow rfl rfl rfl n_X10_nextRow ⟨Nat.le_of_ble_eq_true rfl, Nat.le_of_ble_eq_true rfl⟩) hu8 [0, 11] rfl rfl 0 10 rfl rfl rfl rfl rfl rfl rfl hl.1 rfl (Nat.le_of_ble_eq_true rfl) dX10_findOrder_117 ⟨Nat.zero_le _, Nat.zero_le _⟩ (fun H locs Wd => ?_)
    refine lv_istore_n (lv' := [(1, .int u8.1), (0, .ref a_t)]) S.1 S.2.1 dX10_findOrder_120 rfl hl (by decide) rfl (fun ls hl => ?_)
    refine lv_goto (tgt := 12) S.1 S.2.1 dX10_findOrder_121 rfl ?_
    exact hK12 t_rowLong t_homes t_bestValue t_tried u8.2 t_who t_then t_best u8.1 _ _ _ Wd (lv_sub hl [1, 0] rfl) hf
  have b90 : ∀ (K12 : Int32 → Int32 → Int32 → (Nat → Int32) → (Nat → Int32) → (Nat → Int32) → (Nat → Int32) → (Nat → Int32) → Int32 → Option (Int32 × Int32 × Int32 × (Nat → Int32) × (Nat → Int32) × (Nat → Int32) × (Nat → Int32) × (Nat → Int32))) (hK12 : ∀ (t_rowLong t_homes t_bestValue : Int32) (t_tried t_row t_who t_then t_best : Nat → Int32) (x1 : Int32) (H1 : Heap) (locs1 : List Loc) (ls1 : Array Slot), gw D A s.heap (wX10_findOrder cI cB cZ cM cJ cK  a_t a_t_text a_t_corners a_t_streets a_t_ends a_t_time a_t_leaders a_t_home a_t_feet a_t_far a_t_now a_t_isKept a_t_tried a_t_row a_t_who a_t_then a_t_best a_t_seenAs a_t_seenAt a_t_plan t_trace t_typed t_at t_start t_sort t_value t_fault t_rowLong t_homes t_bestValue t_seen t_planMany t_corners t_streets t_ends t_time t_leaders t_home t_feet t_far t_now t_tried t_row t_who t_then t_best) H1 locs1 → lv_has ls1 4 [(0, .ref a_t), (1, .int x1)] → F = K12 t_rowLong t_homes t_bestValue t_tried t_row t_who t_then t_best x1 → W p l e rmX10_findOrder s m [.ref a_t].toArray below meth c H1 locs1 0 0 (MQ below (gQ F (fun _u : Int32 × Int32 × Int32 × (Nat → Int32) × (Nat → Int32) × (Nat → Int32) × (Nat → Int32) × (Nat → Int32) => none) (fun _u : Int32 × Int32 × Int32 × (Nat → Int32) × (Nat → Int32) × (Nat → Int32) × (Nat → Int32) × (Nat → Int32) => (wX10_findOrder cI cB cZ cM cJ cK  a_t a_t_text a_t_corners a_t_streets a_t_ends a_t_time a_t_leaders a_t_home a_t_feet a_t_far a_t_now a_t_isKept a_t_tried a_t_row a_t_who a_t_then a_t_best a_t_seenAs a_t_seenAt a_t_plan t_trace t_typed t_at t_start t_sort t_value t_fault _u.1 _u.2.1 _u.2.2.1 t_seen t_planMany t_corners t_streets t_ends t_time t_leaders t_home t_feet t_far t_now _u.2.2.2.1 _u.2.2.2.2.1 _u.2.2.2.2.2.1 _u.2.2.2.2.2.2.1 _u.2.2.2.2.2.2.2)) D A) [.ref a_t].toArray s 0 0 A) (F0 m 12 ls1 [])) (n : Nat), ∀ (t_rowLong t_homes t_bestValue : Int32) (t_tried t_row t_who t_then t_best : Nat → Int32) (x3 : Int32) (H1 : Heap) (locs1 : List Loc) (ls1 : Array Slot), gw D A s.heap (wX10_findOrder cI cB cZ cM cJ cK  a_t a_t_text a_t_corners a_t_streets a_t_ends a_t_time a_t_leaders a_t_home a_t_feet a_t_far a_t_now a_t_isKept a_t_tried a_t_row a_t_who a_t_then a_t_best a_t_seenAs a_t_seenAt a_t_plan t_trace t_typed t_at t_start t_sort t_value t_fault t_rowLong t_homes t_bestValue t_seen t_planMany t_corners t_streets t_ends t_time t_leaders t_home t_feet t_far t_now t_tried t_row t_who t_then t_best) H1 locs1 → lv_has ls1 4 [(0, .ref a_t), (3, .int x3)] → F = fX10_findOrder_b90 N t_corners t_streets t_ends t_time t_leaders t_home t_feet t_far t_now K12 n t_rowLong t_homes t_bestValue t_tried t_row t_who t_then t_best x3 → W p l e rmX10_findOrder s m [.ref a_t].toArray below meth c H1 locs1 0 0 (MQ below (gQ F (fun _u : Int32 × Int32 × Int32 × (Nat → Int32) × (Nat → Int32) × (Nat → Int32) × (Nat → Int32) × (Nat → Int32) => none) (fun _u : Int32 × Int32 × Int32 × (Nat → Int32) × (Nat → Int32) × (Nat → Int32) × (Nat → Int32) × (Nat → Int32) => (wX10_findOrder cI cB cZ cM cJ cK  a_t a_t_text a_t_corners a_t_streets a_t_ends a_t_time a_t_leaders a_t_home a_t_feet a_t_far a_t_now a_t_isKept a_t_tried a_t_row a_t_who a_t_then a_t_best a_t_seenAs a_t_seenAt a_t_plan t_trace t_typed t_at t_start t_sort t_value t_fault _u.1 _u.2.1 _u.2.2.1 t_seen t_planMany t_corners t_streets t_ends t_time t_leaders t_home t_feet t_far t_now _u.2.2.2.1 _u.2.2.2.2.1 _u.2.2.2.2.2.1 _u.2.2.2.2.2.2.1 _u.2.2.2.2.2.2.2)) D A) [.ref a_t].toArray s 0 0 A) (F0 m 90 ls1 []) := by
    intro K12 hK12 n
    induction n with
    | zero => intro t_rowLong t_homes t_bestValue t_tried t_row t_who t_then t_best x3 H locs ls Wd hl hf; exact absurd hf hF
    | succ n ih =>
      intro t_rowLong t_homes t_bestValue t_tried t_row t_who t_then t_best x3 H locs ls Wd hl hf
      refine lv_iload_n S.1 S.2.1 dX10_findOrder_90 rfl (lv_at hl 1 rfl) ?_
      refine lv_aload_n S.1 S.2.1 dX10_findOrder_91 rfl (lv_at hl 0 rfl) ?_
      refine g_get (a := a_t) S hK Wd iX10_findOrder_X10 0 rfl rfl 20 rfl rfl kX10_findOrder_5 rfl dX10_findOrder_92 ?_
      refine lv_icmp_ge (tgt := 116) S.1 S.2.1 dX10_findOrder_95 rfl (fun c9 => ?_) (fun c9 => ?_)
      · have hf := g_if hf c9
        exact b116 K12 hK12 t_rowLong t_homes t_bestValue t_tried t_row t_who t_then t_best _ _ _ Wd (lv_sub hl [0] rfl) hf
      · have hf := g_ifn hf c9
        refine lv_aload_n S.1 S.2.1 dX10_findOrder_98 rfl (lv_at hl 0 rfl) ?_
        refine g_get (a := a_t) S hK Wd iX10_findOrder_X10 0 rfl rfl 24 rfl rfl kX10_findOrder_6 rfl dX10_findOrder_99 ?_
        refine lv_iload_n S.1 S.2.1 dX10_findOrder_102 rfl (lv_at hl 1 rfl) ?_
        refine lv_aload_n S.1 S.2.1 dX10_findOrder_103 rfl (lv_at hl 0 rfl) ?_
        refine g_get (a := a_t) S hK Wd iX10_findOrder_X10 0 rfl rfl 19 rfl rfl kX10_findOrder_7 rfl dX10_findOrder_104 ?_
        refine lv_iload_n S.1 S.2.1 dX10_findOrder_107 rfl (lv_at hl 1 rfl) ?_
        obtain ⟨h10, hf⟩ := g_gi hF hf
        refine g_iald (a := a_t_row) S hK Wd 11 0 rfl rfl h10 dX10_findOrder_108 ?_
        obtain ⟨h11, hf⟩ := g_gi hF hf
        refine g_iast (a := a_t_best) (ws' := (wX10_findOrder cI cB cZ cM cJ cK  a_t a_t_text a_t_corners a_t_streets a_t_ends a_t_time a_t_leaders a_t_home a_t_feet a_t_far a_t_now a_t_isKept a_t_tried a_t_row a_t_who a_t_then a_t_best a_t_seenAs a_t_seenAt a_t_plan t_trace t_typed t_at t_start t_sort t_value t_fault t_rowLong t_homes t_bestValue t_seen t_planMany t_corners t_streets t_ends t_time t_leaders t_home t_feet t_far t_now t_tried t_row t_who t_then (upd t_best x3.toNatClampNeg (t_row x3.toNatClampNeg)))) S hK Wd 14 0 rfl rfl h11 dX10_findOrder_109 rfl (fun H locs Wd => ?_)
        refine lv_iinc (v := (x3 + (1 : Int32))) (lv' := [(3, .int (x3 + (1 : Int32))), (0, .ref a_t)]) S.1 S.2.1 dX10_findOrder_110 hl (k := 1) rfl rfl (by decide) rfl (fun ls hl => ?_)
        refine lv_goto (tgt := 90) S.1 S.2.1 dX10_findOrder_113 rfl ?_
        exact ih t_rowLong t_homes t_bestValue t_tried t_row t_who t_then (upd t_best x3.toNatClampNeg (t_row x3.toNatClampNeg)) (x3 + (1 : Int32)) _ _ _ Wd (lv_sub hl [1, 0] rfl) hf
  have b83 : ∀ (K12 : Int32 → Int32 → Int32 → (Nat → Int32) → (Nat → Int32) → (Nat → Int32) → (Nat → Int32) → (Nat → Int32) → Int32 → Option (Int32 × Int32 × Int32 × (Nat → Int32) × (Nat → Int32) × (Nat → Int32) × (Nat → Int32) × (Nat → Int32))) (hK12 : ∀ (t_rowLong t_homes t_bestValue : Int32) (t_tried t_row t_who t_then t_best : Nat → Int32) (x1 : Int32) (H1 : Heap) (locs1 : List Loc) (ls1 : Array Slot), gw D A s.heap (wX10_findOrder cI cB cZ cM cJ cK  a_t a_t_text a_t_corners a_t_streets a_t_ends a_t_time a_t_leaders a_t_home a_t_feet a_t_far a_t_now a_t_isKept a_t_tried a_t_row a_t_who a_t_then a_t_best a_t_seenAs a_t_seenAt a_t_plan t_trace t_typed t_at t_start t_sort t_value t_fault t_rowLong t_homes t_bestValue t_seen t_planMany t_corners t_streets t_ends t_time t_leaders t_home t_feet t_far t_now t_tried t_row t_who t_then t_best) H1 locs1 → lv_has ls1 4 [(0, .ref a_t), (1, .int x1)] → F = K12 t_rowLong t_homes t_bestValue t_tried t_row t_who t_then t_best x1 → W p l e rmX10_findOrder s m [.ref a_t].toArray below meth c H1 locs1 0 0 (MQ below (gQ F (fun _u : Int32 × Int32 × Int32 × (Nat → Int32) × (Nat → Int32) × (Nat → Int32) × (Nat → Int32) × (Nat → Int32) => none) (fun _u : Int32 × Int32 × Int32 × (Nat → Int32) × (Nat → Int32) × (Nat → Int32) × (Nat → Int32) × (Nat → Int32) => (wX10_findOrder cI cB cZ cM cJ cK  a_t a_t_text a_t_corners a_t_streets a_t_ends a_t_time a_t_leaders a_t_home a_t_feet a_t_far a_t_now a_t_isKept a_t_tried a_t_row a_t_who a_t_then a_t_best a_t_seenAs a_t_seenAt a_t_plan t_trace t_typed t_at t_start t_sort t_value t_fault _u.1 _u.2.1 _u.2.2.1 t_seen t_planMany t_corners t_streets t_ends t_time t_leaders t_home t_feet t_far t_now _u.2.2.2.1 _u.2.2.2.2.1 _u.2.2.2.2.2.1 _u.2.2.2.2.2.2.1 _u.2.2.2.2.2.2.2)) D A) [.ref a_t].toArray s 0 0 A) (F0 m 12 ls1 [])) , ∀ (t_rowLong t_homes t_bestValue : Int32) (t_tried t_row t_who t_then t_best : Nat → Int32) (x2 : Int32) (H1 : Heap) (locs1 : List Loc) (ls1 : Array Slot), gw D A s.heap (wX10_findOrder cI cB cZ cM cJ cK  a_t a_t_text a_t_corners a_t_streets a_t_ends a_t_time a_t_leaders a_t_home a_t_feet a_t_far a_t_now a_t_isKept a_t_tried a_t_row a_t_who a_t_then a_t_best a_t_seenAs a_t_seenAt a_t_plan t_trace t_typed t_at t_start t_sort t_value t_fault t_rowLong t_homes t_bestValue t_seen t_planMany t_corners t_streets t_ends t_time t_leaders t_home t_feet t_far t_now t_tried t_row t_who t_then t_best) H1 locs1 → lv_has ls1 4 [(0, .ref a_t), (2, .int x2)] → F = fX10_findOrder_b83 N t_corners t_streets t_ends t_time t_leaders t_home t_feet t_far t_now K12 t_rowLong t_homes t_bestValue t_tried t_row t_who t_then t_best x2 → W p l e rmX10_findOrder s m [.ref a_t].toArray below meth c H1 locs1 0 0 (MQ below (gQ F (fun _u : Int32 × Int32 × Int32 × (Nat → Int32) × (Nat → Int32) × (Nat → Int32) × (Nat → Int32) × (Nat → Int32) => none) (fun _u : Int32 × Int32 × Int32 × (Nat → Int32) × (Nat → Int32) × (Nat → Int32) × (Nat → Int32) × (Nat → Int32) => (wX10_findOrder cI cB cZ cM cJ cK  a_t a_t_text a_t_corners a_t_streets a_t_ends a_t_time a_t_leaders a_t_home a_t_feet a_t_far a_t_now a_t_isKept a_t_tried a_t_row a_t_who a_t_then a_t_best a_t_seenAs a_t_seenAt a_t_plan t_trace t_typed t_at t_start t_sort t_value t_fault _u.1 _u.2.1 _u.2.2.1 t_seen t_planMany t_corners t_streets t_ends t_time t_leaders t_home t_feet t_far t_now _u.2.2.2.1 _u.2.2.2.2.1 _u.2.2.2.2.2.1 _u.2.2.2.2.2.2.1 _u.2.2.2.2.2.2.2)) D A) [.ref a_t].toArray s 0 0 A) (F0 m 83 ls1 []) := by
    intro K12 hK12 t_rowLong t_homes t_bestValue t_tried t_row t_who t_then t_best x2 H locs ls Wd hl hf
    refine lv_aload_n S.1 S.2.1 dX10_findOrder_83 rfl (lv_at hl 0 rfl) ?_
    refine lv_iload_n S.1 S.2.1 dX10_findOrder_84 rfl (lv_at hl 1 rfl) ?_
    refine g_put (a := a_t) (ws' := (wX10_findOrder cI cB cZ cM cJ cK  a_t a_t_text a_t_corners a_t_streets a_t_ends a_t_time a_t_leaders a_t_home a_t_feet a_t_far a_t_now a_t_isKept a_t_tried a_t_row a_t_who a_t_then a_t_best a_t_seenAs a_t_seenAt a_t_plan t_trace t_typed t_at t_start t_sort t_value t_fault t_rowLong t_homes x2 t_seen t_planMany t_corners t_streets t_ends t_time t_leaders t_home t_feet t_far t_now t_tried t_row t_who t_then t_best)) S hK Wd iX10_findOrder_X10 tyX10 tyX10_ok nmX10 0 rfl rfl 25 rfl rfl kX10_findOrder_1 rfl rfl rfl dX10_findOrder_85 rfl (fun H locs Wd => ?_)
    refine lv_iconst (v := 0) S.1 S.2.1 dX10_findOrder_88 (by decide) ?_
    refine lv_istore_n (lv' := [(3, .int (0 : Int32)), (0, .ref a_t), (2, .int x2)]) S.1 S.2.1 dX10_findOrder_89 rfl hl (by decide) rfl (fun ls hl => ?_)
    exact b90 K12 hK12 N t_rowLong t_homes x2 t_tried t_row t_who t_then t_best (0 : Int32) _ _ _ Wd (lv_sub hl [1, 0] rfl) hf
  have b33 : ∀ (K12 : Int32 → Int32 → Int32 → (Nat → Int32) → (Nat → Int32) → (Nat → Int32) → (Nat → Int32) → (Nat → Int32) → Int32 → Option (Int32 × Int32 × Int32 × (Nat → Int32) × (Nat → Int32) × (Nat → Int32) × (Nat → Int32) × (Nat → Int32))) (hK12 : ∀ (t_rowLong t_homes t_bestValue : Int32) (t_tried t_row t_who t_then t_best : Nat → Int32) (x1 : Int32) (H1 : Heap) (locs1 : List Loc) (ls1 : Array Slot), gw D A s.heap (wX10_findOrder cI cB cZ cM cJ cK  a_t a_t_text a_t_corners a_t_streets a_t_ends a_t_time a_t_leaders a_t_home a_t_feet a_t_far a_t_now a_t_isKept a_t_tried a_t_row a_t_who a_t_then a_t_best a_t_seenAs a_t_seenAt a_t_plan t_trace t_typed t_at t_start t_sort t_value t_fault t_rowLong t_homes t_bestValue t_seen t_planMany t_corners t_streets t_ends t_time t_leaders t_home t_feet t_far t_now t_tried t_row t_who t_then t_best) H1 locs1 → lv_has ls1 4 [(0, .ref a_t), (1, .int x1)] → F = K12 t_rowLong t_homes t_bestValue t_tried t_row t_who t_then t_best x1 → W p l e rmX10_findOrder s m [.ref a_t].toArray below meth c H1 locs1 0 0 (MQ below (gQ F (fun _u : Int32 × Int32 × Int32 × (Nat → Int32) × (Nat → Int32) × (Nat → Int32) × (Nat → Int32) × (Nat → Int32) => none) (fun _u : Int32 × Int32 × Int32 × (Nat → Int32) × (Nat → Int32) × (Nat → Int32) × (Nat → Int32) × (Nat → Int32) => (wX10_findOrder cI cB cZ cM cJ cK  a_t a_t_text a_t_corners a_t_streets a_t_ends a_t_time a_t_leaders a_t_home a_t_feet a_t_far a_t_now a_t_isKept a_t_tried a_t_row a_t_who a_t_then a_t_best a_t_seenAs a_t_seenAt a_t_plan t_trace t_typed t_at t_start t_sort t_value t_fault _u.1 _u.2.1 _u.2.2.1 t_seen t_planMany t_corners t_streets t_ends t_time t_leaders t_home t_feet t_far t_now _u.2.2.2.1 _u.2.2.2.2.1 _u.2.2.2.2.2.1 _u.2.2.2.2.2.2.1 _u.2.2.2.2.2.2.2)) D A) [.ref a_t].toArray s 0 0 A) (F0 m 12 ls1 [])) , ∀ (t_rowLong t_homes t_bestValue : Int32) (t_tried t_row t_who t_then t_best : Nat → Int32) (y0 : Int32) (H1 : Heap) (locs1 : List Loc) (ls1 : Array Slot), gw D A s.heap (wX10_findOrder cI cB cZ cM cJ cK  a_t a_t_text a_t_corners a_t_streets a_t_ends a_t_time a_t_leaders a_t_home a_t_feet a_t_far a_t_now a_t_isKept a_t_tried a_t_row a_t_who a_t_then a_t_best a_t_seenAs a_t_seenAt a_t_plan t_trace t_typed t_at t_start t_sort t_value t_fault t_rowLong t_homes t_bestValue t_seen t_planMany t_corners t_streets t_ends t_time t_leaders t_home t_feet t_far t_now t_tried t_row t_who t_then t_best) H1 locs1 → lv_has ls1 4 [(0, .ref a_t)] → F = fX10_findOrder_b33 N t_corners t_streets t_ends t_time t_leaders t_home t_feet t_far t_now K12 t_rowLong t_homes t_bestValue t_tried t_row t_who t_then t_best y0 → W p l e rmX10_findOrder s m [.ref a_t].toArray below meth c H1 locs1 0 0 (MQ below (gQ F (fun _u : Int32 × Int32 × Int32 × (Nat → Int32) × (Nat → Int32) × (Nat → Int32) × (Nat → Int32) × (Nat → Int32) => none) (fun _u : Int32 × Int32 × Int32 × (Nat → Int32) × (Nat → Int32) × (Nat → Int32) × (Nat → Int32) × (Nat → Int32) => (wX10_findOrder cI cB cZ cM cJ cK  a_t a_t_text a_t_corners a_t_streets a_t_ends a_t_time a_t_leaders a_t_home a_t_feet a_t_far a_t_now a_t_isKept a_t_tried a_t_row a_t_who a_t_then a_t_best a_t_seenAs a_t_seenAt a_t_plan t_trace t_typed t_at t_start t_sort t_value t_fault _u.1 _u.2.1 _u.2.2.1 t_seen t_planMany t_corners t_streets t_ends t_time t_leaders t_home t_feet t_far t_now _u.2.2.2.1 _u.2.2.2.2.1 _u.2.2.2.2.2.1 _u.2.2.2.2.2.2.1 _u.2.2.2.2.2.2.2)) D A) [.ref a_t].toArray s 0 0 A) (F0 m 33 ls1 [.int y0]) := by
    intro K12 hK12 t_rowLong t_homes t_bestValue t_tried t_row t_who t_then t_best y0 H locs ls Wd hl hf
    refine lv_sipush (v := 10000) S.1 S.2.1 dX10_findOrder_33 (by decide) ?_
    refine lv_aload_n S.1 S.2.1 dX10_findOrder_36 rfl (lv_at hl 0 rfl) ?_
    refine g_get (a := a_t) S hK Wd iX10_findOrder_X10 0 rfl rfl 18 rfl rfl kX10_findOrder_3 rfl dX10_findOrder_37 ?_
    refine lv_iconst (v := 2) S.1 S.2.1 dX10_findOrder_40 (by decide) ?_
    refine g_iald (a := a_t_tried) S hK Wd 10 0 rfl rfl (show ¬ (((2 : Int32) < 0) ∨ 17 ≤ Int32.toNatClampNeg (2 : Int32)) from by decide) dX10_findOrder_41 ?_
    refine lv_aload_n S.1 S.2.1 dX10_findOrder_42 rfl (lv_at hl 0 rfl) ?_
    refine g_get (a := a_t) S hK Wd iX10_findOrder_X10 0 rfl rfl 16 rfl rfl kX10_findOrder_4 rfl dX10_findOrder_43 ?_
    refine lv_iconst (v := 2) S.1 S.2.1 dX10_findOrder_46 (by decide) ?_
    refine g_iald (a := a_t_now) S hK Wd 9 0 rfl rfl (show ¬ (((2 : Int32) < 0) ∨ 564 ≤ Int32.toNatClampNeg (2 : Int32)) from by decide) dX10_findOrder_47 ?_
    refine lv_isub S.1 S.2.1 dX10_findOrder_48 ?_
    refine lv_imul S.1 S.2.1 dX10_findOrder_49 ?_
    refine lv_iadd S.1 S.2.1 dX10_findOrder_50 ?_
    refine lv_aload_n S.1 S.2.1 dX10_findOrder_51 rfl (lv_at hl 0 rfl) ?_
    refine g_get (a := a_t) S hK Wd iX10_findOrder_X10 0 rfl rfl 18 rfl rfl kX10_findOrder_3 rfl dX10_findOrder_52 ?_
    refine lv_iconst (v := 1) S.1 S.2.1 dX10_findOrder_55 (by decide) ?_
    refine g_iald (a := a_t_tried) S hK Wd 10 0 rfl rfl (show ¬ (((1 : Int32) < 0) ∨ 17 ≤ Int32.toNatClampNeg (1 : Int32)) from by decide) dX10_findOrder_56 ?_
    refine lv_iadd S.1 S.2.1 dX10_findOrder_57 ?_
    refine lv_aload_n S.1 S.2.1 dX10_findOrder_58 rfl (lv_at hl 0 rfl) ?_
    refine g_get (a := a_t) S hK Wd iX10_findOrder_X10 0 rfl rfl 16 rfl rfl kX10_findOrder_4 rfl dX10_findOrder_59 ?_
    refine lv_iconst (v := 1) S.1 S.2.1 dX10_findOrder_62 (by decide) ?_
    refine g_iald (a := a_t_now) S hK Wd 9 0 rfl rfl (show ¬ (((1 : Int32) < 0) ∨ 564 ≤ Int32.toNatClampNeg (1 : Int32)) from by decide) dX10_findOrder_63 ?_
    refine lv_isub S.1 S.2.1 dX10_findOrder_64 ?_
    refine lv_istore_n (lv' := [(2, .int (((y0 + ((10000 : Int32) * ((t_tried (2 : Int32).toNatClampNeg) - (t_now (2 : Int32).toNatClampNeg)))) + (t_tried (1 : Int32).toNatClampNeg)) - (t_now (1 : Int32).toNatClampNeg))), (0, .ref a_t)]) S.1 S.2.1 dX10_findOrder_65 rfl hl (by decide) rfl (fun ls hl => ?_)
    refine lv_aload_n S.1 S.2.1 dX10_findOrder_66 rfl (lv_at hl 1 rfl) ?_
    refine g_get (a := a_t) S hK Wd iX10_findOrder_X10 0 rfl rfl 25 rfl rfl kX10_findOrder_1 rfl dX10_findOrder_67 ?_
    refine lv_bipush (v := (-9)) S.1 S.2.1 dX10_findOrder_70 (by decide) ?_
    refine lv_icmp_eq (tgt := 83) S.1 S.2.1 dX10_findOrder_72 rfl (fun c6 => ?_) (fun c6 => ?_)
    · have hf := g_if hf c6
      exact b83 K12 hK12 t_rowLong t_homes t_bestValue t_tried t_row t_who t_then t_best (((y0 + ((10000 : Int32) * ((t_tried (2 : Int32).toNatClampNeg) - (t_now (2 : Int32).toNatClampNeg)))) + (t_tried (1 : Int32).toNatClampNeg)) - (t_now (1 : Int32).toNatClampNeg)) _ _ _ Wd (lv_sub hl [1, 0] rfl) hf
    · have hf := g_ifn hf c6
      refine lv_iload_n S.1 S.2.1 dX10_findOrder_75 rfl (lv_at hl 0 rfl) ?_
      refine lv_aload_n S.1 S.2.1 dX10_findOrder_76 rfl (lv_at hl 1 rfl) ?_
      refine g_get (a := a_t) S hK Wd iX10_findOrder_X10 0 rfl rfl 25 rfl rfl kX10_findOrder_1 rfl dX10_findOrder_77 ?_
      refine lv_icmp_ge (tgt := 116) S.1 S.2.1 dX10_findOrder_80 rfl (fun c7 => ?_) (fun c7 => ?_)
      · have hf := g_if hf c7
        exact b116 K12 hK12 t_rowLong t_homes t_bestValue t_tried t_row t_who t_then t_best _ _ _ Wd (lv_sub hl [1] rfl) hf
      · have hf := g_ifn hf c7
        exact b83 K12 hK12 t_rowLong t_homes t_bestValue t_tried t_row t_who t_then t_best (((y0 + ((10000 : Int32) * ((t_tried (2 : Int32).toNatClampNeg) - (t_now (2 : Int32).toNatClampNeg)))) + (t_tried (1 : Int32).toNatClampNeg)) - (t_now (1 : Int32).toNatClampNeg)) _ _ _ Wd (lv_sub hl [1, 0] rfl) hf
  have b12 : ∀ (n : Nat), ∀ (t_rowLong t_homes t_bestValue : Int32) (t_tried t_row t_who t_then t_best : Nat → Int32) (x1 : Int32) (H1 : Heap) (locs1 : List Loc) (ls1 : Array Slot), gw D A s.heap (wX10_findOrder cI cB cZ cM cJ cK  a_t a_t_text a_t_corners a_t_streets a_t_ends a_t_time a_t_leaders a_t_home a_t_feet a_t_far a_t_now a_t_isKept a_t_tried a_t_row a_t_who a_t_then a_t_best a_t_seenAs a_t_seenAt a_t_plan t_trace t_typed t_at t_start t_sort t_value t_fault t_rowLong t_homes t_bestValue t_seen t_planMany t_corners t_streets t_ends t_time t_leaders t_home t_feet t_far t_now t_tried t_row t_who t_then t_best) H1 locs1 → lv_has ls1 4 [(0, .ref a_t), (1, .int x1)] → F = fX10_findOrder_b12 N t_corners t_streets t_ends t_time t_leaders t_home t_feet t_far t_now  n t_rowLong t_homes t_bestValue t_tried t_row t_who t_then t_best x1 → W p l e rmX10_findOrder s m [.ref a_t].toArray below meth c H1 locs1 0 0 (MQ below (gQ F (fun _u : Int32 × Int32 × Int32 × (Nat → Int32) × (Nat → Int32) × (Nat → Int32) × (Nat → Int32) × (Nat → Int32) => none) (fun _u : Int32 × Int32 × Int32 × (Nat → Int32) × (Nat → Int32) × (Nat → Int32) × (Nat → Int32) × (Nat → Int32) => (wX10_findOrder cI cB cZ cM cJ cK  a_t a_t_text a_t_corners a_t_streets a_t_ends a_t_time a_t_leaders a_t_home a_t_feet a_t_far a_t_now a_t_isKept a_t_tried a_t_row a_t_who a_t_then a_t_best a_t_seenAs a_t_seenAt a_t_plan t_trace t_typed t_at t_start t_sort t_value t_fault _u.1 _u.2.1 _u.2.2.1 t_seen t_planMany t_corners t_streets t_ends t_time t_leaders t_home t_feet t_far t_now _u.2.2.2.1 _u.2.2.2.2.1 _u.2.2.2.2.2.1 _u.2.2.2.2.2.2.1 _u.2.2.2.2.2.2.2)) D A) [.ref a_t].toArray s 0 0 A) (F0 m 12 ls1 []) := by
    intro  n
    induction n with
    | zero => intro t_rowLong t_homes t_bestValue t_tried t_row t_who t_then t_best x1 H locs ls Wd hl hf; exact absurd hf hF
    | succ n ih =>
      intro t_rowLong t_homes t_bestValue t_tried t_row t_who t_then t_best x1 H locs ls Wd hl hf
      refine lv_iload_n S.1 S.2.1 dX10_findOrder_12 rfl (lv_at hl 1 rfl) ?_
      refine lv_if_eq (tgt := 124) S.1 S.2.1 dX10_findOrder_13 rfl (fun c2 => ?_) (fun c2 => ?_)
      · have hf := g_if hf c2
        exact g_vret S Wd hr hlk dX10_findOrder_124 (t_rowLong, t_homes, t_bestValue, t_tried, t_row, t_who, t_then, t_best) hf rfl rfl
      · have hf := g_ifn hf c2
        refine lv_aload_n S.1 S.2.1 dX10_findOrder_16 rfl (lv_at hl 0 rfl) ?_
        obtain ⟨u3, hu3, hf⟩ := g_bind hF hf
        refine g_callV (ws' := (wX10_findOrder cI cB cZ cM cJ cK  a_t a_t_text a_t_corners a_t_streets a_t_ends a_t_time a_t_leaders a_t_home a_t_feet a_t_far a_t_now a_t_isKept a_t_tried a_t_row a_t_who a_t_then a_t_best a_t_seenAs a_t_seenAt a_t_plan t_trace t_typed t_at t_start t_sort t_value t_fault t_rowLong u3.1 t_bestValue t_seen t_planMany t_corners t_streets t_ends t_time t_leaders t_home t_feet t_far t_now u3.2.1 t_row u3.2.2.1 u3.2.2.2 t_best)) (As := []) (rest := []) (st1 := []) S hK hA Wd (c_X10_run l D N cI cB cZ cM cJ cK a_t a_t_text a_t_corners a_t_streets a_t_ends a_t_time a_t_leaders a_t_home a_t_feet a_t_far a_t_now a_t_isKept a_t_tried a_t_row a_t_who a_t_then a_t_best a_t_seenAs a_t_seenAt a_t_plan t_trace t_typed t_at t_start t_sort t_value t_fault t_rowLong t_homes t_bestValue t_seen t_planMany t_streets t_ends t_time t_home t_feet t_far t_now t_tried t_row t_who t_then) (cwV 0 S.2.2.2.2 gX10_findOrder_X10_run rfl rfl rfl n_X10_run ⟨Nat.le_of_ble_eq_true rfl, Nat.le_of_ble_eq_true rfl⟩) hu3 [0, 2, 3, 4, 6, 7, 8, 9, 10, 11, 12, 13] rfl rfl 0 10 rfl rfl rfl rfl rfl rfl rfl hl.1 rfl (Nat.le_of_ble_eq_true rfl) dX10_findOrder_17 ⟨Nat.zero_le _, Nat.zero_le _⟩ (fun H locs Wd => ?_)
        refine lv_aload_n S.1 S.2.1 dX10_findOrder_20 rfl (lv_at hl 0 rfl) ?_
        obtain ⟨u4, hu4, hf⟩ := g_bind hF hf
        refine g_callV (ws' := (wX10_findOrder cI cB cZ cM cJ cK  a_t a_t_text a_t_corners a_t_streets a_t_ends a_t_time a_t_leaders a_t_home a_t_feet a_t_far a_t_now a_t_isKept a_t_tried a_t_row a_t_who a_t_then a_t_best a_t_seenAs a_t_seenAt a_t_plan t_trace t_typed t_at t_start t_sort t_value t_fault t_rowLong u3.1 t_bestValue t_seen t_planMany t_corners t_streets t_ends t_time t_leaders t_home t_feet t_far t_now u3.2.1 t_row u3.2.2.1 u3.2.2.2 t_best)) (As := []) (rest := []) (st1 := [.int u4]) S hK hA Wd (c_X10_isAtDoor l D N cI cB cZ cM cJ cK a_t a_t_text a_t_corners a_t_streets a_t_ends a_t_time a_t_leaders a_t_home a_t_feet a_t_far a_t_now a_t_isKept a_t_tried a_t_row a_t_who a_t_then a_t_best a_t_seenAs a_t_seenAt a_t_plan t_trace t_typed t_at t_start t_sort t_value t_fault t_rowLong u3.1 t_bestValue t_seen t_planMany t_corners u3.2.1) (cwV 0 S.2.2.2.2 gX10_findOrder_X10_isAtDoor rfl rfl rfl n_X10_isAtDoor ⟨Nat.le_of_ble_eq_true rfl, Nat.le_of_ble_eq_true rfl⟩) hu4 [0, 1, 10] rfl rfl 0 10 rfl rfl rfl rfl rfl rfl rfl hl.1 rfl (Nat.le_of_ble_eq_true rfl) dX10_findOrder_21 ⟨Nat.zero_le _, Nat.zero_le _⟩ (fun H locs Wd => ?_)
        refine lv_if_eq (tgt := 31) S.1 S.2.1 dX10_findOrder_24 rfl (fun c5 => ?_) (fun c5 => ?_)
        · have hf := g_if hf c5
          refine lv_ldc S.1 S.2.1 S.2.2.2.1 (S.2.2.2.2 _ kX10_findOrder_2) dX10_findOrder_31 ?_
          exact b33 (fun t_rowLong t_homes t_bestValue t_tried t_row t_who t_then t_best x1 => fX10_findOrder_b12 N t_corners t_streets t_ends t_time t_leaders t_home t_feet t_far t_now n t_rowLong t_homes t_bestValue t_tried t_row t_who t_then t_best x1) ih t_rowLong u3.1 t_bestValue u3.2.1 t_row u3.2.2.1 u3.2.2.2 t_best (10000000 : Int32) _ _ _ Wd (lv_sub hl [0] rfl) hf
        · have hf := g_ifn hf c5
          refine lv_iconst (v := 0) S.1 S.2.1 dX10_findOrder_27 (by decide) ?_
          refine lv_goto (tgt := 33) S.1 S.2.1 dX10_findOrder_28 rfl ?_
          exact b33 (fun t_rowLong t_homes t_bestValue t_tried t_row t_who t_then t_best x1 => fX10_findOrder_b12 N t_corners t_streets t_ends t_time t_leaders t_home t_feet t_far t_now n t_rowLong t_homes t_bestValue t_tried t_row t_who t_then t_best x1) ih t_rowLong u3.1 t_bestValue u3.2.1 t_row u3.2.2.1 u3.2.2.2 t_best (0 : Int32) _ _ _ Wd (lv_sub hl [0] rfl) hf
  refine lv_aload_n S.1 S.2.1 dX10_findOrder_0 rfl (lv_at hl 0 rfl) ?_
  obtain ⟨u1, hu1, hf⟩ := g_bind hF hf
  refine g_callV (ws' := (wX10_findOrder cI cB cZ cM cJ cK  a_t a_t_text a_t_corners a_t_streets a_t_ends a_t_time a_t_leaders a_t_home a_t_feet a_t_far a_t_now a_t_isKept a_t_tried a_t_row a_t_who a_t_then a_t_best a_t_seenAs a_t_seenAt a_t_plan t_trace t_typed t_at t_start t_sort t_value t_fault u1.1 t_homes t_bestValue t_seen t_planMany t_corners t_streets t_ends t_time t_leaders t_home t_feet t_far t_now t_tried u1.2 t_who t_then t_best)) (As := []) (rest := []) (st1 := []) S hK hA Wd (c_X10_firstRow l D N cI cB cZ cM cJ cK a_t a_t_text a_t_corners a_t_streets a_t_ends a_t_time a_t_leaders a_t_home a_t_feet a_t_far a_t_now a_t_isKept a_t_tried a_t_row a_t_who a_t_then a_t_best a_t_seenAs a_t_seenAt a_t_plan t_trace t_typed t_at t_start t_sort t_value t_fault t_rowLong t_homes t_bestValue t_seen t_planMany t_leaders t_now t_row) (cwV 0 S.2.2.2.2 gX10_findOrder_X10_firstRow rfl rfl rfl n_X10_firstRow ⟨Nat.le_of_ble_eq_true rfl, Nat.le_of_ble_eq_true rfl⟩) hu1 [0, 5, 9, 11] rfl rfl 0 10 rfl rfl rfl rfl rfl rfl rfl hl.1 rfl (Nat.le_of_ble_eq_true rfl) dX10_findOrder_1 ⟨Nat.zero_le _, Nat.zero_le _⟩ (fun H locs Wd => ?_)
  refine lv_iconst (v := 1) S.1 S.2.1 dX10_findOrder_4 (by decide) ?_
  refine lv_istore_n (lv' := [(1, .int (1 : Int32)), (0, .ref a_t)]) S.1 S.2.1 dX10_findOrder_5 rfl hl (by decide) rfl (fun ls hl => ?_)
  refine lv_aload_n S.1 S.2.1 dX10_findOrder_6 rfl (lv_at hl 1 rfl) ?_
  refine lv_bipush (v := (-9)) S.1 S.2.1 dX10_findOrder_7 (by decide) ?_
  refine g_put (a := a_t) (ws' := (wX10_findOrder cI cB cZ cM cJ cK  a_t a_t_text a_t_corners a_t_streets a_t_ends a_t_time a_t_leaders a_t_home a_t_feet a_t_far a_t_now a_t_isKept a_t_tried a_t_row a_t_who a_t_then a_t_best a_t_seenAs a_t_seenAt a_t_plan t_trace t_typed t_at t_start t_sort t_value t_fault u1.1 t_homes (-9 : Int32) t_seen t_planMany t_corners t_streets t_ends t_time t_leaders t_home t_feet t_far t_now t_tried u1.2 t_who t_then t_best)) S hK Wd iX10_findOrder_X10 tyX10 tyX10_ok nmX10 0 rfl rfl 25 rfl rfl kX10_findOrder_1 rfl rfl rfl dX10_findOrder_9 rfl (fun H locs Wd => ?_)
  exact b12  N u1.1 t_homes (-9 : Int32) t_tried u1.2 t_who t_then t_best (1 : Int32) _ _ _ Wd (lv_sub hl [1, 0] rfl) hf
def wX10_order (cI cB cZ cM cJ cK : ClassId) (a_t a_t_text a_t_corners a_t_streets a_t_ends a_t_time a_t_leaders a_t_home a_t_feet a_t_far a_t_now a_t_isKept a_t_tried a_t_row a_t_who a_t_then a_t_best a_t_seenAs a_t_seenAt a_t_plan : Nat) (t_trace : Int64) (t_typed t_at t_start t_sort t_value t_fault t_rowLong t_homes t_bestValue t_seen t_planMany : Int32) (t_corners t_streets t_ends t_time t_leaders t_home t_feet t_far t_now t_tried t_row t_who t_then t_best : Nat → Int32) : List va_W := [[(a_t, .inr (10, [.long t_trace, .ref a_t_text, .int t_typed, .ref a_t_corners, .ref a_t_streets, .ref a_t_ends, .ref a_t_time, .ref a_t_leaders, .ref a_t_home, .ref a_t_feet, .int t_at, .int t_start, .int t_sort, .int t_value, .int t_fault, .ref a_t_far, .ref a_t_now, .ref a_t_isKept, .ref a_t_tried, .ref a_t_row, .int t_rowLong, .ref a_t_who, .ref a_t_then, .int t_homes, .ref a_t_best, .int t_bestValue, .ref a_t_seenAs, .ref a_t_seenAt, .int t_seen, .ref a_t_plan, .int t_planMany]))], [(a_t_corners, .inl (cI, 2, .inl t_corners))], [(a_t_streets, .inl (cI, 2, .inl t_streets))], [(a_t_ends, .inl (cI, 48, .inl t_ends))], [(a_t_time, .inl (cI, 24, .inl t_time))], [(a_t_leaders, .inl (cI, 2, .inl t_leaders))], [(a_t_home, .inl (cI, 12, .inl t_home))], [(a_t_feet, .inl (cI, 12, .inl t_feet))], [(a_t_far, .inl (cI, 64, .inl t_far))], [(a_t_now, .inl (cI, 564, .inl t_now))], [(a_t_tried, .inl (cI, 17, .inl t_tried))], [(a_t_row, .inl (cI, 6, .inl t_row))], [(a_t_who, .inl (cI, 6, .inl t_who))], [(a_t_then, .inl (cI, 6, .inl t_then))], [(a_t_best, .inl (cI, 6, .inl t_best))]]
def rmX10_order : Room := { frames := 4, cells := 0, slots := 0, locals := 98 }
theorem kX10_order_1 : Cond.fieldLink RX10 174 "FeastMarchModel" "bestValue" "I" ∈ wsX10_order := List.mem_of_getElem? (i := 1) rfl
theorem kX10_order_2 : Cond.constant RX10 184 (10000000) ∈ wsX10_order := List.mem_of_getElem? (i := 2) rfl
theorem kX10_order_3 : Cond.fieldLink RX10 158 "FeastMarchModel" "rowLong" "I" ∈ wsX10_order := List.mem_of_getElem? (i := 3) rfl
theorem kX10_order_4 : Cond.fieldLink RX10 57 "FeastMarchModel" "best" "[I" ∈ wsX10_order := List.mem_of_getElem? (i := 4) rfl
theorem iX10_order_X10 : ∀ w ∈ wsX100, w ∈ wsX10_order := fun _ h => List.mem_cons_of_mem _ (List.mem_append_right _ h)
theorem n_X10_order : yX10_order.cls = RX10 ∧ yX10_order.cls ≠ "java/lang/invoke/MethodHandle" ∧ yX10_order.cls ≠ "java/lang/invoke/VarHandle" ∧ (parseMethodDescriptor yX10_order.desc).map (fun d => d.parameters.length) = some 1 := by decide +kernel
set_option maxHeartbeats 4000000 in
set_option maxRecDepth 100000 in
theorem c_X10_order (l : Launch) (D : va_G) (N : Nat) (cI cB cZ cM cJ cK : ClassId) (a_t a_t_text a_t_corners a_t_streets a_t_ends a_t_time a_t_leaders a_t_home a_t_feet a_t_far a_t_now a_t_isKept a_t_tried a_t_row a_t_who a_t_then a_t_best a_t_seenAs a_t_seenAt a_t_plan : Nat) (t_trace : Int64) (t_typed t_at t_start t_sort t_value t_fault t_rowLong t_homes t_bestValue t_seen t_planMany : Int32) (t_corners t_streets t_ends t_time t_leaders t_home t_feet t_far t_now t_tried t_row t_who t_then t_best : Nat → Int32) (x1 : Int32) : gM l yX10_order wsX10_order rmX10_order D (gT cI cB cZ cM cJ cK) (wX10_order cI cB cZ cM cJ cK  a_t a_t_text a_t_corners a_t_streets a_t_ends a_t_time a_t_leaders a_t_home a_t_feet a_t_far a_t_now a_t_isKept a_t_tried a_t_row a_t_who a_t_then a_t_best a_t_seenAs a_t_seenAt a_t_plan t_trace t_typed t_at t_start t_sort t_value t_fault t_rowLong t_homes t_bestValue t_seen t_planMany t_corners t_streets t_ends t_time t_leaders t_home t_feet t_far t_now t_tried t_row t_who t_then t_best) [.ref a_t, .int x1] (fX10_order N t_rowLong t_homes t_bestValue t_corners t_streets t_ends t_time t_leaders t_home t_feet t_far t_now t_tried t_row t_who t_then t_best x1) (fun _u : Int32 × Int32 × Int32 × Int32 × (Nat → Int32) × (Nat → Int32) × (Nat → Int32) × (Nat → Int32) × (Nat → Int32) => some (.int _u.1)) (fun _u : Int32 × Int32 × Int32 × Int32 × (Nat → Int32) × (Nat → Int32) × (Nat → Int32) × (Nat → Int32) × (Nat → Int32) => (wX10_order cI cB cZ cM cJ cK  a_t a_t_text a_t_corners a_t_streets a_t_ends a_t_time a_t_leaders a_t_home a_t_feet a_t_far a_t_now a_t_isKept a_t_tried a_t_row a_t_who a_t_then a_t_best a_t_seenAs a_t_seenAt a_t_plan t_trace t_typed t_at t_start t_sort t_value t_fault _u.2.1 _u.2.2.1 _u.2.2.2.1 t_seen t_planMany t_corners t_streets t_ends t_time t_leaders t_home t_feet t_far t_now _u.2.2.2.2.1 _u.2.2.2.2.2.1 _u.2.2.2.2.2.2.1 _u.2.2.2.2.2.2.2.1 _u.2.2.2.2.2.2.2.2)) := by
  refine g_start (cc := cX10_order) (maxL := 2) (ret := (some .int)) (by decide) rfl (Nat.le_of_ble_eq_true rfl) ?_
  intro F hf hF p e s m below meth c A ls S hK hA Wd hr hlk hnm hl
  refine lv_iload_n S.1 S.2.1 dX10_order_0 rfl (lv_at hl 1 rfl) ?_
  refine lv_bipush (v := (-3)) S.1 S.2.1 dX10_order_1 (by decide) ?_
  refine lv_iconst (v := 5) S.1 S.2.1 dX10_order_3 (by decide) ?_
  obtain ⟨u1, hu1, hf⟩ := g_bind hF hf
  refine g_callS (ws' := (wX10_order cI cB cZ cM cJ cK  a_t a_t_text a_t_corners a_t_streets a_t_ends a_t_time a_t_leaders a_t_home a_t_feet a_t_far a_t_now a_t_isKept a_t_tried a_t_row a_t_who a_t_then a_t_best a_t_seenAs a_t_seenAt a_t_plan t_trace t_typed t_at t_start t_sort t_value t_fault t_rowLong t_homes t_bestValue t_seen t_planMany t_corners t_streets t_ends t_time t_leaders t_home t_feet t_far t_now t_tried t_row t_who t_then t_best)) (As := [.int x1, .int (-3 : Int32), .int (5 : Int32)]) (rest := []) (st1 := [.int u1]) S hK hA Wd (c_X10_in l D N cI cB cZ cM cJ cK x1 (-3 : Int32) (5 : Int32)) (va_cwS 3 S.2.2.2.2 gX10_order_X10_in rfl rfl rfl n_X10_in ⟨Nat.le_of_ble_eq_true rfl, Nat.le_of_ble_eq_true rfl⟩) hu1 [] rfl rfl rfl rfl rfl rfl hl.1 rfl (Nat.le_of_ble_eq_true rfl) dX10_order_4 ⟨Nat.zero_le _, Nat.zero_le _⟩ (fun H locs Wd => ?_)
  refine lv_if_ne (tgt := 12) S.1 S.2.1 dX10_order_7 rfl (fun c2 => ?_) (fun c2 => ?_)
  · have hf := g_ifn hf c2
    refine lv_aload_n S.1 S.2.1 dX10_order_12 rfl (lv_at hl 0 rfl) ?_
    obtain ⟨u3, hu3, hf⟩ := g_bind hF hf
    refine g_callV (ws' := (wX10_order cI cB cZ cM cJ cK  a_t a_t_text a_t_corners a_t_streets a_t_ends a_t_time a_t_leaders a_t_home a_t_feet a_t_far a_t_now a_t_isKept a_t_tried a_t_row a_t_who a_t_then a_t_best a_t_seenAs a_t_seenAt a_t_plan t_trace t_typed t_at t_start t_sort t_value t_fault u3.1 u3.2.1 u3.2.2.1 t_seen t_planMany t_corners t_streets t_ends t_time t_leaders t_home t_feet t_far t_now u3.2.2.2.1 u3.2.2.2.2.1 u3.2.2.2.2.2.1 u3.2.2.2.2.2.2.1 u3.2.2.2.2.2.2.2)) (As := []) (rest := []) (st1 := []) S hK hA Wd (c_X10_findOrder l D N cI cB cZ cM cJ cK a_t a_t_text a_t_corners a_t_streets a_t_ends a_t_time a_t_leaders a_t_home a_t_feet a_t_far a_t_now a_t_isKept a_t_tried a_t_row a_t_who a_t_then a_t_best a_t_seenAs a_t_seenAt a_t_plan t_trace t_typed t_at t_start t_sort t_value t_fault t_rowLong t_homes t_bestValue t_seen t_planMany t_corners t_streets t_ends t_time t_leaders t_home t_feet t_far t_now t_tried t_row t_who t_then t_best) (cwV 0 S.2.2.2.2 gX10_order_X10_findOrder rfl rfl rfl n_X10_findOrder ⟨Nat.le_of_ble_eq_true rfl, Nat.le_of_ble_eq_true rfl⟩) hu3 [0, 1, 2, 3, 4, 5, 6, 7, 8, 9, 10, 11, 12, 13, 14] rfl rfl 0 10 rfl rfl rfl rfl rfl rfl rfl hl.1 rfl (Nat.le_of_ble_eq_true rfl) dX10_order_13 ⟨Nat.zero_le _, Nat.zero_le _⟩ (fun H locs Wd => ?_)
    refine lv_iload_n S.1 S.2.1 dX10_order_16 rfl (lv_at hl 1 rfl) ?_
    by_cases c4 : x1 = (-3 : Int32)
    · have hf := g_if hf c4
      refine g_tabIn (tgt := 71) (off := 54) S c4 dX10_order_17 (by decide) (by decide) (by decide) rfl ?_
      refine lv_aload_n S.1 S.2.1 dX10_order_71 rfl (lv_at hl 0 rfl) ?_
      refine g_get (a := a_t) S hK Wd iX10_order_X10 0 rfl rfl 25 rfl rfl kX10_order_1 rfl dX10_order_72 ?_
      refine lv_sipush (v := 10000) S.1 S.2.1 dX10_order_75 (by decide) ?_
      refine lv_irem S.1 S.2.1 dX10_order_78 (by decide) ?_
      exact g_iret S Wd hr hlk dX10_order_79 ((u3.2.2.1 - u3.2.2.1 / (10000 : Int32) * (10000 : Int32)), u3.1, u3.2.1, u3.2.2.1, u3.2.2.2.1, u3.2.2.2.2.1, u3.2.2.2.2.2.1, u3.2.2.2.2.2.2.1, u3.2.2.2.2.2.2.2) hf rfl rfl
    have hf := g_ifn hf c4
    by_cases c5 : x1 = (-2 : Int32)
    · have hf := g_if hf c5
      refine g_tabIn (tgt := 59) (off := 42) S c5 dX10_order_17 (by decide) (by decide) (by decide) rfl ?_
      refine lv_aload_n S.1 S.2.1 dX10_order_59 rfl (lv_at hl 0 rfl) ?_
      refine g_get (a := a_t) S hK Wd iX10_order_X10 0 rfl rfl 25 rfl rfl kX10_order_1 rfl dX10_order_60 ?_
      refine lv_ldc S.1 S.2.1 S.2.2.2.1 (S.2.2.2.2 _ kX10_order_2) dX10_order_63 ?_
      refine lv_irem S.1 S.2.1 dX10_order_65 (by decide) ?_
      refine lv_sipush (v := 10000) S.1 S.2.1 dX10_order_66 (by decide) ?_
      refine lv_idiv S.1 S.2.1 dX10_order_69 (by decide) ?_
      exact g_iret S Wd hr hlk dX10_order_70 (((u3.2.2.1 - u3.2.2.1 / (10000000 : Int32) * (10000000 : Int32)) / (10000 : Int32)), u3.1, u3.2.1, u3.2.2.1, u3.2.2.2.1, u3.2.2.2.2.1, u3.2.2.2.2.2.1, u3.2.2.2.2.2.2.1, u3.2.2.2.2.2.2.2) hf rfl rfl
    have hf := g_ifn hf c5
    by_cases c6 : x1 = (-1 : Int32)
    · have hf := g_if hf c6
      refine g_tabIn (tgt := 44) (off := 27) S c6 dX10_order_17 (by decide) (by decide) (by decide) rfl ?_
      refine lv_aload_n S.1 S.2.1 dX10_order_44 rfl (lv_at hl 0 rfl) ?_
      refine g_get (a := a_t) S hK Wd iX10_order_X10 0 rfl rfl 25 rfl rfl kX10_order_1 rfl dX10_order_45 ?_
      refine lv_ldc S.1 S.2.1 S.2.2.2.1 (S.2.2.2.2 _ kX10_order_2) dX10_order_48 ?_
      refine lv_icmp_ge (tgt := 57) S.1 S.2.1 dX10_order_50 rfl (fun c7 => ?_) (fun c7 => ?_)
      · have hf := g_if hf c7
        refine lv_iconst (v := 0) S.1 S.2.1 dX10_order_57 (by decide) ?_
        exact g_iret S Wd hr hlk dX10_order_58 ((0 : Int32), u3.1, u3.2.1, u3.2.2.1, u3.2.2.2.1, u3.2.2.2.2.1, u3.2.2.2.2.2.1, u3.2.2.2.2.2.2.1, u3.2.2.2.2.2.2.2) hf rfl rfl
      · have hf := g_ifn hf c7
        refine lv_iconst (v := 1) S.1 S.2.1 dX10_order_53 (by decide) ?_
        refine lv_goto (tgt := 58) S.1 S.2.1 dX10_order_54 rfl ?_
        exact g_iret S Wd hr hlk dX10_order_58 ((1 : Int32), u3.1, u3.2.1, u3.2.2.1, u3.2.2.2.1, u3.2.2.2.2.1, u3.2.2.2.2.2.1, u3.2.2.2.2.2.2.1, u3.2.2.2.2.2.2.2) hf rfl rfl
    have hf := g_ifn hf c6
    refine lv_tableOut (tgt := 80) S.1 S.2.1 dX10_order_17 ?_ rfl ?_
    · have q0 : (x1).toInt < -3 ∨ -1 < (x1).toInt := by
        have z0 : (x1).toInt ≠ -3 := fun e => g_ne c4 (e.trans (by decide))
        have z1 : (x1).toInt ≠ -2 := fun e => g_ne c5 (e.trans (by decide))
        have z2 : (x1).toInt ≠ -1 := fun e => g_ne c6 (e.trans (by decide))
        omega
      exact q0
    refine lv_iload_n S.1 S.2.1 dX10_order_80 rfl (lv_at hl 1 rfl) ?_
    refine lv_aload_n S.1 S.2.1 dX10_order_81 rfl (lv_at hl 0 rfl) ?_
    refine g_get (a := a_t) S hK Wd iX10_order_X10 0 rfl rfl 20 rfl rfl kX10_order_3 rfl dX10_order_82 ?_
    refine lv_icmp_ge (tgt := 97) S.1 S.2.1 dX10_order_85 rfl (fun c8 => ?_) (fun c8 => ?_)
    · have hf := g_if hf c8
      refine lv_bipush (v := (-9)) S.1 S.2.1 dX10_order_97 (by decide) ?_
      exact g_iret S Wd hr hlk dX10_order_99 ((-9 : Int32), u3.1, u3.2.1, u3.2.2.1, u3.2.2.2.1, u3.2.2.2.2.1, u3.2.2.2.2.2.1, u3.2.2.2.2.2.2.1, u3.2.2.2.2.2.2.2) hf rfl rfl
    · have hf := g_ifn hf c8
      refine lv_aload_n S.1 S.2.1 dX10_order_88 rfl (lv_at hl 0 rfl) ?_
      refine g_get (a := a_t) S hK Wd iX10_order_X10 0 rfl rfl 24 rfl rfl kX10_order_4 rfl dX10_order_89 ?_
      refine lv_iload_n S.1 S.2.1 dX10_order_92 rfl (lv_at hl 1 rfl) ?_
      obtain ⟨h9, hf⟩ := g_gi hF hf
      refine g_iald (a := a_t_best) S hK Wd 14 0 rfl rfl h9 dX10_order_93 ?_
      refine lv_goto (tgt := 99) S.1 S.2.1 dX10_order_94 rfl ?_
      exact g_iret S Wd hr hlk dX10_order_99 ((u3.2.2.2.2.2.2.2 x1.toNatClampNeg), u3.1, u3.2.1, u3.2.2.1, u3.2.2.2.1, u3.2.2.2.2.1, u3.2.2.2.2.2.1, u3.2.2.2.2.2.2.1, u3.2.2.2.2.2.2.2) hf rfl rfl
  · have hf := g_if hf c2
    refine lv_iconst (v := (-1)) S.1 S.2.1 dX10_order_10 (by decide) ?_
    exact g_iret S Wd hr hlk dX10_order_11 ((-1 : Int32), t_rowLong, t_homes, t_bestValue, t_tried, t_row, t_who, t_then, t_best) hf rfl rfl
def wX10_most (cI cB cZ cM cJ cK : ClassId) (a_t a_t_text a_t_corners a_t_streets a_t_ends a_t_time a_t_leaders a_t_home a_t_feet a_t_far a_t_now a_t_isKept a_t_tried a_t_row a_t_who a_t_then a_t_best a_t_seenAs a_t_seenAt a_t_plan : Nat) (t_trace : Int64) (t_typed t_at t_start t_sort t_value t_fault t_rowLong t_homes t_bestValue t_seen t_planMany : Int32) (t_streets t_ends t_time t_leaders t_home t_feet t_far t_now t_tried t_row t_who t_then t_best : Nat → Int32) : List va_W := [[(a_t, .inr (10, [.long t_trace, .ref a_t_text, .int t_typed, .ref a_t_corners, .ref a_t_streets, .ref a_t_ends, .ref a_t_time, .ref a_t_leaders, .ref a_t_home, .ref a_t_feet, .int t_at, .int t_start, .int t_sort, .int t_value, .int t_fault, .ref a_t_far, .ref a_t_now, .ref a_t_isKept, .ref a_t_tried, .ref a_t_row, .int t_rowLong, .ref a_t_who, .ref a_t_then, .int t_homes, .ref a_t_best, .int t_bestValue, .ref a_t_seenAs, .ref a_t_seenAt, .int t_seen, .ref a_t_plan, .int t_planMany]))], [(a_t_streets, .inl (cI, 2, .inl t_streets))], [(a_t_ends, .inl (cI, 48, .inl t_ends))], [(a_t_time, .inl (cI, 24, .inl t_time))], [(a_t_leaders, .inl (cI, 2, .inl t_leaders))], [(a_t_home, .inl (cI, 12, .inl t_home))], [(a_t_feet, .inl (cI, 12, .inl t_feet))], [(a_t_far, .inl (cI, 64, .inl t_far))], [(a_t_now, .inl (cI, 564, .inl t_now))], [(a_t_tried, .inl (cI, 17, .inl t_tried))], [(a_t_row, .inl (cI, 6, .inl t_row))], [(a_t_who, .inl (cI, 6, .inl t_who))], [(a_t_then, .inl (cI, 6, .inl t_then))], [(a_t_best, .inl (cI, 6, .inl t_best))]]
def rmX10_most : Room := { frames := 3, cells := 0, slots := 0, locals := 75 }
theorem kX10_most_1 : Cond.fieldLink RX10 45 "FeastMarchModel" "tried" "[I" ∈ wsX10_most := List.mem_of_getElem? (i := 1) rfl
theorem kX10_most_2 : Cond.fieldLink RX10 158 "FeastMarchModel" "rowLong" "I" ∈ wsX10_most := List.mem_of_getElem? (i := 2) rfl
theorem kX10_most_3 : Cond.fieldLink RX10 57 "FeastMarchModel" "best" "[I" ∈ wsX10_most := List.mem_of_getElem? (i := 3) rfl
theorem kX10_most_4 : Cond.fieldLink RX10 48 "FeastMarchModel" "row" "[I" ∈ wsX10_most := List.mem_of_getElem? (i := 4) rfl
theorem iX10_most_X10 : ∀ w ∈ wsX100, w ∈ wsX10_most := fun _ h => List.mem_cons_of_mem _ (List.mem_append_right _ h)
theorem n_X10_most : yX10_most.cls = RX10 ∧ yX10_most.cls ≠ "java/lang/invoke/MethodHandle" ∧ yX10_most.cls ≠ "java/lang/invoke/VarHandle" ∧ (parseMethodDescriptor yX10_most.desc).map (fun d => d.parameters.length) = some 1 := by decide +kernel
set_option maxHeartbeats 4000000 in
set_option maxRecDepth 100000 in
theorem c_X10_most (l : Launch) (D : va_G) (N : Nat) (cI cB cZ cM cJ cK : ClassId) (a_t a_t_text a_t_corners a_t_streets a_t_ends a_t_time a_t_leaders a_t_home a_t_feet a_t_far a_t_now a_t_isKept a_t_tried a_t_row a_t_who a_t_then a_t_best a_t_seenAs a_t_seenAt a_t_plan : Nat) (t_trace : Int64) (t_typed t_at t_start t_sort t_value t_fault t_rowLong t_homes t_bestValue t_seen t_planMany : Int32) (t_streets t_ends t_time t_leaders t_home t_feet t_far t_now t_tried t_row t_who t_then t_best : Nat → Int32) (x1 : Int32) : gM l yX10_most wsX10_most rmX10_most D (gT cI cB cZ cM cJ cK) (wX10_most cI cB cZ cM cJ cK  a_t a_t_text a_t_corners a_t_streets a_t_ends a_t_time a_t_leaders a_t_home a_t_feet a_t_far a_t_now a_t_isKept a_t_tried a_t_row a_t_who a_t_then a_t_best a_t_seenAs a_t_seenAt a_t_plan t_trace t_typed t_at t_start t_sort t_value t_fault t_rowLong t_homes t_bestValue t_seen t_planMany t_streets t_ends t_time t_leaders t_home t_feet t_far t_now t_tried t_row t_who t_then t_best) [.ref a_t, .int x1] (fX10_most N t_rowLong t_homes t_streets t_ends t_time t_leaders t_home t_feet t_far t_now t_tried t_row t_who t_then t_best x1) (fun _u : Int32 × Int32 × Int32 × (Nat → Int32) × (Nat → Int32) × (Nat → Int32) × (Nat → Int32) × (Nat → Int32) => some (.int _u.1)) (fun _u : Int32 × Int32 × Int32 × (Nat → Int32) × (Nat → Int32) × (Nat → Int32) × (Nat → Int32) × (Nat → Int32) => (wX10_most cI cB cZ cM cJ cK  a_t a_t_text a_t_corners a_t_streets a_t_ends a_t_time a_t_leaders a_t_home a_t_feet a_t_far a_t_now a_t_isKept a_t_tried a_t_row a_t_who a_t_then a_t_best a_t_seenAs a_t_seenAt a_t_plan t_trace t_typed t_at t_start t_sort t_value t_fault _u.2.1 _u.2.2.1 t_bestValue t_seen t_planMany t_streets t_ends t_time t_leaders t_home t_feet t_far t_now _u.2.2.2.1 _u.2.2.2.2.1 _u.2.2.2.2.2.1 _u.2.2.2.2.2.2.1 _u.2.2.2.2.2.2.2)) := by
  refine g_start (cc := cX10_most) (maxL := 6) (ret := (some .int)) (by decide) rfl (Nat.le_of_ble_eq_true rfl) ?_
  intro F hf hF p e s m below meth c A ls S hK hA Wd hr hlk hnm hl
  have b82 : ∀ (K20 : Int32 → Int32 → (Nat → Int32) → (Nat → Int32) → (Nat → Int32) → (Nat → Int32) → (Nat → Int32) → Int32 → Int32 → Option (Int32 × Int32 × Int32 × (Nat → Int32) × (Nat → Int32) × (Nat → Int32) × (Nat → Int32) × (Nat → Int32))) (hK20 : ∀ (t_rowLong t_homes : Int32) (t_tried t_row t_who t_then t_best : Nat → Int32) (x2 x3 : Int32) (H1 : Heap) (locs1 : List Loc) (ls1 : Array Slot), gw D A s.heap (wX10_most cI cB cZ cM cJ cK  a_t a_t_text a_t_corners a_t_streets a_t_ends a_t_time a_t_leaders a_t_home a_t_feet a_t_far a_t_now a_t_isKept a_t_tried a_t_row a_t_who a_t_then a_t_best a_t_seenAs a_t_seenAt a_t_plan t_trace t_typed t_at t_start t_sort t_value t_fault t_rowLong t_homes t_bestValue t_seen t_planMany t_streets t_ends t_time t_leaders t_home t_feet t_far t_now t_tried t_row t_who t_then t_best) H1 locs1 → lv_has ls1 6 [(0, .ref a_t), (1, .int x1), (2, .int x2), (3, .int x3)] → F = K20 t_rowLong t_homes t_tried t_row t_who t_then t_best x2 x3 → W p l e rmX10_most s m [.ref a_t, .int x1].toArray below meth c H1 locs1 0 0 (MQ below (gQ F (fun _u : Int32 × Int32 × Int32 × (Nat → Int32) × (Nat → Int32) × (Nat → Int32) × (Nat → Int32) × (Nat → Int32) => some (.int _u.1)) (fun _u : Int32 × Int32 × Int32 × (Nat → Int32) × (Nat → Int32) × (Nat → Int32) × (Nat → Int32) × (Nat → Int32) => (wX10_most cI cB cZ cM cJ cK  a_t a_t_text a_t_corners a_t_streets a_t_ends a_t_time a_t_leaders a_t_home a_t_feet a_t_far a_t_now a_t_isKept a_t_tried a_t_row a_t_who a_t_then a_t_best a_t_seenAs a_t_seenAt a_t_plan t_trace t_typed t_at t_start t_sort t_value t_fault _u.2.1 _u.2.2.1 t_bestValue t_seen t_planMany t_streets t_ends t_time t_leaders t_home t_feet t_far t_now _u.2.2.2.1 _u.2.2.2.2.1 _u.2.2.2.2.2.1 _u.2.2.2.2.2.2.1 _u.2.2.2.2.2.2.2)) D A) [.ref a_t, .int x1].toArray s 0 0 A) (F0 m 20 ls1 [])) , ∀ (t_rowLong t_homes : Int32) (t_tried t_row t_who t_then t_best : Nat → Int32) (x3 : Int32) (H1 : Heap) (locs1 : List Loc) (ls1 : Array Slot), gw D A s.heap (wX10_most cI cB cZ cM cJ cK  a_t a_t_text a_t_corners a_t_streets a_t_ends a_t_time a_t_leaders a_t_home a_t_feet a_t_far a_t_now a_t_isKept a_t_tried a_t_row a_t_who a_t_then a_t_best a_t_seenAs a_t_seenAt a_t_plan t_trace t_typed t_at t_start t_sort t_value t_fault t_rowLong t_homes t_bestValue t_seen t_planMany t_streets t_ends t_time t_leaders t_home t_feet t_far t_now t_tried t_row t_who t_then t_best) H1 locs1 → lv_has ls1 6 [(0, .ref a_t), (1, .int x1), (3, .int x3)] → F = fX10_most_b82 N t_streets t_ends t_time t_leaders t_home t_feet t_far t_now x1 K20 t_rowLong t_homes t_tried t_row t_who t_then t_best x3 → W p l e rmX10_most s m [.ref a_t, .int x1].toArray below meth c H1 locs1 0 0 (MQ below (gQ F (fun _u : Int32 × Int32 × Int32 × (Nat → Int32) × (Nat → Int32) × (Nat → Int32) × (Nat → Int32) × (Nat → Int32) => some (.int _u.1)) (fun _u : Int32 × Int32 × Int32 × (Nat → Int32) × (Nat → Int32) × (Nat → Int32) × (Nat → Int32) × (Nat → Int32) => (wX10_most cI cB cZ cM cJ cK  a_t a_t_text a_t_corners a_t_streets a_t_ends a_t_time a_t_leaders a_t_home a_t_feet a_t_far a_t_now a_t_isKept a_t_tried a_t_row a_t_who a_t_then a_t_best a_t_seenAs a_t_seenAt a_t_plan t_trace t_typed t_at t_start t_sort t_value t_fault _u.2.1 _u.2.2.1 t_bestValue t_seen t_planMany t_streets t_ends t_time t_leaders t_home t_feet t_far t_now _u.2.2.2.1 _u.2.2.2.2.1 _u.2.2.2.2.2.1 _u.2.2.2.2.2.2.1 _u.2.2.2.2.2.2.2)) D A) [.ref a_t, .int x1].toArray s 0 0 A) (F0 m 82 ls1 []) := by
    intro K20 hK20 t_rowLong t_homes t_tried t_row t_who t_then t_best x3 H locs ls Wd hl hf
    refine lv_aload_n S.1 S.2.1 dX10_most_82 rfl (lv_at hl 0 rfl) ?_
    obtain ⟨u15, hu15, hf⟩ := g_bind hF hf
    refine g_callV (ws' := (wX10_most cI cB cZ cM cJ cK  a_t a_t_text a_t_corners a_t_streets a_t_ends a_t_time a_t_leaders a_t_home a_t_feet a_t_far a_t_now a_t_isKept a_t_tried a_t_row a_t_who a_t_then a_t_best a_t_seenAs a_t_seenAt a_t_plan t_trace t_typed t_at t_start t_sort t_value t_fault t_rowLong t_homes t_bestValue t_seen t_planMany t_streets t_ends t_time t_leaders t_home t_feet t_far t_now t_tried u15.2 t_who t_then t_best)) (As := []) (rest := []) (st1 := [.int u15.1]) S hK hA Wd (c_X10_nextRow l D N cI cB cZ cM cJ cK a_t a_t_text a_t_corners a_t_streets a_t_ends a_t_time a_t_leaders a_t_home a_t_feet a_t_far a_t_now a_t_isKept a_t_tried a_t_row a_t_who a_t_then a_t_best a_t_seenAs a_t_seenAt a_t_plan t_trace t_typed t_at t_start t_sort t_value t_fault t_rowLong t_homes t_bestValue t_seen t_planMany t_row) (cwV 0 S.2.2.2.2 gX10_most_X10_nextRow rfl rfl rfl n_X10_nextRow ⟨Nat.le_of_ble_eq_true rfl, Nat.le_of_ble_eq_true rfl⟩) hu15 [0, 10] rfl rfl 0 10 rfl rfl rfl rfl rfl rfl rfl hl.1 rfl (Nat.le_of_ble_eq_true rfl) dX10_most_83 ⟨Nat.zero_le _, Nat.zero_le _⟩ (fun H locs Wd => ?_)
    refine lv_istore_n (lv' := [(2, .int u15.1), (0, .ref a_t), (1, .int x1), (3, .int x3)]) S.1 S.2.1 dX10_most_86 rfl hl (by decide) rfl (fun ls hl => ?_)
    refine lv_goto (tgt := 20) S.1 S.2.1 dX10_most_87 rfl ?_
    exact hK20 t_rowLong t_homes t_tried u15.2 t_who t_then t_best u15.1 x3 _ _ _ Wd (lv_sub hl [1, 2, 0, 3] rfl) hf
  have b53 : ∀ (K20 : Int32 → Int32 → (Nat → Int32) → (Nat → Int32) → (Nat → Int32) → (Nat → Int32) → (Nat → Int32) → Int32 → Int32 → Option (Int32 × Int32 × Int32 × (Nat → Int32) × (Nat → Int32) × (Nat → Int32) × (Nat → Int32) × (Nat → Int32))) (hK20 : ∀ (t_rowLong t_homes : Int32) (t_tried t_row t_who t_then t_best : Nat → Int32) (x2 x3 : Int32) (H1 : Heap) (locs1 : List Loc) (ls1 : Array Slot), gw D A s.heap (wX10_most cI cB cZ cM cJ cK  a_t a_t_text a_t_corners a_t_streets a_t_ends a_t_time a_t_leaders a_t_home a_t_feet a_t_far a_t_now a_t_isKept a_t_tried a_t_row a_t_who a_t_then a_t_best a_t_seenAs a_t_seenAt a_t_plan t_trace t_typed t_at t_start t_sort t_value t_fault t_rowLong t_homes t_bestValue t_seen t_planMany t_streets t_ends t_time t_leaders t_home t_feet t_far t_now t_tried t_row t_who t_then t_best) H1 locs1 → lv_has ls1 6 [(0, .ref a_t), (1, .int x1), (2, .int x2), (3, .int x3)] → F = K20 t_rowLong t_homes t_tried t_row t_who t_then t_best x2 x3 → W p l e rmX10_most s m [.ref a_t, .int x1].toArray below meth c H1 locs1 0 0 (MQ below (gQ F (fun _u : Int32 × Int32 × Int32 × (Nat → Int32) × (Nat → Int32) × (Nat → Int32) × (Nat → Int32) × (Nat → Int32) => some (.int _u.1)) (fun _u : Int32 × Int32 × Int32 × (Nat → Int32) × (Nat → Int32) × (Nat → Int32) × (Nat → Int32) × (Nat → Int32) => (wX10_most cI cB cZ cM cJ cK  a_t a_t_text a_t_corners a_t_streets a_t_ends a_t_time a_t_leaders a_t_home a_t_feet a_t_far a_t_now a_t_isKept a_t_tried a_t_row a_t_who a_t_then a_t_best a_t_seenAs a_t_seenAt a_t_plan t_trace t_typed t_at t_start t_sort t_value t_fault _u.2.1 _u.2.2.1 t_bestValue t_seen t_planMany t_streets t_ends t_time t_leaders t_home t_feet t_far t_now _u.2.2.2.1 _u.2.2.2.2.1 _u.2.2.2.2.2.1 _u.2.2.2.2.2.2.1 _u.2.2.2.2.2.2.2)) D A) [.ref a_t, .int x1].toArray s 0 0 A) (F0 m 20 ls1 [])) (n : Nat), ∀ (t_rowLong t_homes : Int32) (t_tried t_row t_who t_then t_best : Nat → Int32) (x3 x5 : Int32) (H1 : Heap) (locs1 : List Loc) (ls1 : Array Slot), gw D A s.heap (wX10_most cI cB cZ cM cJ cK  a_t a_t_text a_t_corners a_t_streets a_t_ends a_t_time a_t_leaders a_t_home a_t_feet a_t_far a_t_now a_t_isKept a_t_tried a_t_row a_t_who a_t_then a_t_best a_t_seenAs a_t_seenAt a_t_plan t_trace t_typed t_at t_start t_sort t_value t_fault t_rowLong t_homes t_bestValue t_seen t_planMany t_streets t_ends t_time t_leaders t_home t_feet t_far t_now t_tried t_row t_who t_then t_best) H1 locs1 → lv_has ls1 6 [(0, .ref a_t), (1, .int x1), (3, .int x3), (5, .int x5)] → F = fX10_most_b53 N t_streets t_ends t_time t_leaders t_home t_feet t_far t_now x1 K20 n t_rowLong t_homes t_tried t_row t_who t_then t_best x3 x5 → W p l e rmX10_most s m [.ref a_t, .int x1].toArray below meth c H1 locs1 0 0 (MQ below (gQ F (fun _u : Int32 × Int32 × Int32 × (Nat → Int32) × (Nat → Int32) × (Nat → Int32) × (Nat → Int32) × (Nat → Int32) => some (.int _u.1)) (fun _u : Int32 × Int32 × Int32 × (Nat → Int32) × (Nat → Int32) × (Nat → Int32) × (Nat → Int32) × (Nat → Int32) => (wX10_most cI cB cZ cM cJ cK  a_t a_t_text a_t_corners a_t_streets a_t_ends a_t_time a_t_leaders a_t_home a_t_feet a_t_far a_t_now a_t_isKept a_t_tried a_t_row a_t_who a_t_then a_t_best a_t_seenAs a_t_seenAt a_t_plan t_trace t_typed t_at t_start t_sort t_value t_fault _u.2.1 _u.2.2.1 t_bestValue t_seen t_planMany t_streets t_ends t_time t_leaders t_home t_feet t_far t_now _u.2.2.2.1 _u.2.2.2.2.1 _u.2.2.2.2.2.1 _u.2.2.2.2.2.2.1 _u.2.2.2.2.2.2.2)) D A) [.ref a_t, .int x1].toArray s 0 0 A) (F0 m 53 ls1 []) := by
    intro K20 hK20 n
    induction n with
    | zero => intro t_rowLong t_homes t_tried t_row t_who t_then t_best x3 x5 H locs ls Wd hl hf; exact absurd hf hF
    | succ n ih =>
      intro t_rowLong t_homes t_tried t_row t_who t_then t_best x3 x5 H locs ls Wd hl hf
      refine lv_iload S.1 S.2.1 dX10_most_53 (lv_at hl 3 rfl) ?_
      refine lv_aload_n S.1 S.2.1 dX10_most_55 rfl (lv_at hl 0 rfl) ?_
      refine g_get (a := a_t) S hK Wd iX10_most_X10 0 rfl rfl 20 rfl rfl kX10_most_2 rfl dX10_most_56 ?_
      refine lv_icmp_ge (tgt := 82) S.1 S.2.1 dX10_most_59 rfl (fun c12 => ?_) (fun c12 => ?_)
      · have hf := g_if hf c12
        exact b82 K20 hK20 t_rowLong t_homes t_tried t_row t_who t_then t_best x3 _ _ _ Wd (lv_sub hl [0, 1, 2] rfl) hf
      · have hf := g_ifn hf c12
        refine lv_aload_n S.1 S.2.1 dX10_most_62 rfl (lv_at hl 0 rfl) ?_
        refine g_get (a := a_t) S hK Wd iX10_most_X10 0 rfl rfl 24 rfl rfl kX10_most_3 rfl dX10_most_63 ?_
        refine lv_iload S.1 S.2.1 dX10_most_66 (lv_at hl 3 rfl) ?_
        refine lv_aload_n S.1 S.2.1 dX10_most_68 rfl (lv_at hl 0 rfl) ?_
        refine g_get (a := a_t) S hK Wd iX10_most_X10 0 rfl rfl 19 rfl rfl kX10_most_4 rfl dX10_most_69 ?_
        refine lv_iload S.1 S.2.1 dX10_most_72 (lv_at hl 3 rfl) ?_
        obtain ⟨h13, hf⟩ := g_gi hF hf
        refine g_iald (a := a_t_row) S hK Wd 10 0 rfl rfl h13 dX10_most_74 ?_
        obtain ⟨h14, hf⟩ := g_gi hF hf
        refine g_iast (a := a_t_best) (ws' := (wX10_most cI cB cZ cM cJ cK  a_t a_t_text a_t_corners a_t_streets a_t_ends a_t_time a_t_leaders a_t_home a_t_feet a_t_far a_t_now a_t_isKept a_t_tried a_t_row a_t_who a_t_then a_t_best a_t_seenAs a_t_seenAt a_t_plan t_trace t_typed t_at t_start t_sort t_value t_fault t_rowLong t_homes t_bestValue t_seen t_planMany t_streets t_ends t_time t_leaders t_home t_feet t_far t_now t_tried t_row t_who t_then (upd t_best x5.toNatClampNeg (t_row x5.toNatClampNeg)))) S hK Wd 13 0 rfl rfl h14 dX10_most_75 rfl (fun H locs Wd => ?_)
        refine lv_iinc (v := (x5 + (1 : Int32))) (lv' := [(5, .int (x5 + (1 : Int32))), (0, .ref a_t), (1, .int x1), (3, .int x3)]) S.1 S.2.1 dX10_most_76 hl (k := 3) rfl rfl (by decide) rfl (fun ls hl => ?_)
        refine lv_goto (tgt := 53) S.1 S.2.1 dX10_most_79 rfl ?_
        exact ih t_rowLong t_homes t_tried t_row t_who t_then (upd t_best x5.toNatClampNeg (t_row x5.toNatClampNeg)) x3 (x5 + (1 : Int32)) _ _ _ Wd (lv_sub hl [1, 2, 3, 0] rfl) hf
  have b20 : ∀ (n : Nat), ∀ (t_rowLong t_homes : Int32) (t_tried t_row t_who t_then t_best : Nat → Int32) (x2 x3 : Int32) (H1 : Heap) (locs1 : List Loc) (ls1 : Array Slot), gw D A s.heap (wX10_most cI cB cZ cM cJ cK  a_t a_t_text a_t_corners a_t_streets a_t_ends a_t_time a_t_leaders a_t_home a_t_feet a_t_far a_t_now a_t_isKept a_t_tried a_t_row a_t_who a_t_then a_t_best a_t_seenAs a_t_seenAt a_t_plan t_trace t_typed t_at t_start t_sort t_value t_fault t_rowLong t_homes t_bestValue t_seen t_planMany t_streets t_ends t_time t_leaders t_home t_feet t_far t_now t_tried t_row t_who t_then t_best) H1 locs1 → lv_has ls1 6 [(0, .ref a_t), (1, .int x1), (2, .int x2), (3, .int x3)] → F = fX10_most_b20 N t_streets t_ends t_time t_leaders t_home t_feet t_far t_now x1  n t_rowLong t_homes t_tried t_row t_who t_then t_best x2 x3 → W p l e rmX10_most s m [.ref a_t, .int x1].toArray below meth c H1 locs1 0 0 (MQ below (gQ F (fun _u : Int32 × Int32 × Int32 × (Nat → Int32) × (Nat → Int32) × (Nat → Int32) × (Nat → Int32) × (Nat → Int32) => some (.int _u.1)) (fun _u : Int32 × Int32 × Int32 × (Nat → Int32) × (Nat → Int32) × (Nat → Int32) × (Nat → Int32) × (Nat → Int32) => (wX10_most cI cB cZ cM cJ cK  a_t a_t_text a_t_corners a_t_streets a_t_ends a_t_time a_t_leaders a_t_home a_t_feet a_t_far a_t_now a_t_isKept a_t_tried a_t_row a_t_who a_t_then a_t_best a_t_seenAs a_t_seenAt a_t_plan t_trace t_typed t_at t_start t_sort t_value t_fault _u.2.1 _u.2.2.1 t_bestValue t_seen t_planMany t_streets t_ends t_time t_leaders t_home t_feet t_far t_now _u.2.2.2.1 _u.2.2.2.2.1 _u.2.2.2.2.2.1 _u.2.2.2.2.2.2.1 _u.2.2.2.2.2.2.2)) D A) [.ref a_t, .int x1].toArray s 0 0 A) (F0 m 20 ls1 []) := by
    intro  n
    induction n with
    | zero => intro t_rowLong t_homes t_tried t_row t_who t_then t_best x2 x3 H locs ls Wd hl hf; exact absurd hf hF
    | succ n ih =>
      intro t_rowLong t_homes t_tried t_row t_who t_then t_best x2 x3 H locs ls Wd hl hf
      refine lv_iload_n S.1 S.2.1 dX10_most_20 rfl (lv_at hl 2 rfl) ?_
      refine lv_if_eq (tgt := 90) S.1 S.2.1 dX10_most_21 rfl (fun c4 => ?_) (fun c4 => ?_)
      · have hf := g_if hf c4
        refine lv_iload_n S.1 S.2.1 dX10_most_90 rfl (lv_at hl 1 rfl) ?_
        refine lv_iconst (v := (-1)) S.1 S.2.1 dX10_most_91 (by decide) ?_
        refine lv_icmp_ne (tgt := 99) S.1 S.2.1 dX10_most_92 rfl (fun c5 => ?_) (fun c5 => ?_)
        · have hf := g_ifn hf c5
          refine lv_iload_n S.1 S.2.1 dX10_most_99 rfl (lv_at hl 1 rfl) ?_
          refine lv_aload_n S.1 S.2.1 dX10_most_100 rfl (lv_at hl 0 rfl) ?_
          refine g_get (a := a_t) S hK Wd iX10_most_X10 0 rfl rfl 20 rfl rfl kX10_most_2 rfl dX10_most_101 ?_
          refine lv_icmp_ge (tgt := 116) S.1 S.2.1 dX10_most_104 rfl (fun c6 => ?_) (fun c6 => ?_)
          · have hf := g_if hf c6
            refine lv_bipush (v := (-9)) S.1 S.2.1 dX10_most_116 (by decide) ?_
            exact g_iret S Wd hr hlk dX10_most_118 ((-9 : Int32), t_rowLong, t_homes, t_tried, t_row, t_who, t_then, t_best) hf rfl rfl
          · have hf := g_ifn hf c6
            refine lv_aload_n S.1 S.2.1 dX10_most_107 rfl (lv_at hl 0 rfl) ?_
            refine g_get (a := a_t) S hK Wd iX10_most_X10 0 rfl rfl 24 rfl rfl kX10_most_3 rfl dX10_most_108 ?_
            refine lv_iload_n S.1 S.2.1 dX10_most_111 rfl (lv_at hl 1 rfl) ?_
            obtain ⟨h7, hf⟩ := g_gi hF hf
            refine g_iald (a := a_t_best) S hK Wd 13 0 rfl rfl h7 dX10_most_112 ?_
            refine lv_goto (tgt := 118) S.1 S.2.1 dX10_most_113 rfl ?_
            exact g_iret S Wd hr hlk dX10_most_118 ((t_best x1.toNatClampNeg), t_rowLong, t_homes, t_tried, t_row, t_who, t_then, t_best) hf rfl rfl
        · have hf := g_if hf c5
          refine lv_iload_n S.1 S.2.1 dX10_most_95 rfl (lv_at hl 3 rfl) ?_
          refine lv_goto (tgt := 118) S.1 S.2.1 dX10_most_96 rfl ?_
          exact g_iret S Wd hr hlk dX10_most_118 (x3, t_rowLong, t_homes, t_tried, t_row, t_who, t_then, t_best) hf rfl rfl
      · have hf := g_ifn hf c4
        refine lv_aload_n S.1 S.2.1 dX10_most_24 rfl (lv_at hl 0 rfl) ?_
        obtain ⟨u8, hu8, hf⟩ := g_bind hF hf
        refine g_callV (ws' := (wX10_most cI cB cZ cM cJ cK  a_t a_t_text a_t_corners a_t_streets a_t_ends a_t_time a_t_leaders a_t_home a_t_feet a_t_far a_t_now a_t_isKept a_t_tried a_t_row a_t_who a_t_then a_t_best a_t_seenAs a_t_seenAt a_t_plan t_trace t_typed t_at t_start t_sort t_value t_fault t_rowLong u8.1 t_bestValue t_seen t_planMany t_streets t_ends t_time t_leaders t_home t_feet t_far t_now u8.2.1 t_row u8.2.2.1 u8.2.2.2 t_best)) (As := []) (rest := []) (st1 := []) S hK hA Wd (c_X10_run l D N cI cB cZ cM cJ cK a_t a_t_text a_t_corners a_t_streets a_t_ends a_t_time a_t_leaders a_t_home a_t_feet a_t_far a_t_now a_t_isKept a_t_tried a_t_row a_t_who a_t_then a_t_best a_t_seenAs a_t_seenAt a_t_plan t_trace t_typed t_at t_start t_sort t_value t_fault t_rowLong t_homes t_bestValue t_seen t_planMany t_streets t_ends t_time t_home t_feet t_far t_now t_tried t_row t_who t_then) (cwV 0 S.2.2.2.2 gX10_most_X10_run rfl rfl rfl n_X10_run ⟨Nat.le_of_ble_eq_true rfl, Nat.le_of_ble_eq_true rfl⟩) hu8 [0, 1, 2, 3, 5, 6, 7, 8, 9, 10, 11, 12] rfl rfl 0 10 rfl rfl rfl rfl rfl rfl rfl hl.1 rfl (Nat.le_of_ble_eq_true rfl) dX10_most_25 ⟨Nat.zero_le _, Nat.zero_le _⟩ (fun H locs Wd => ?_)
        refine lv_aload_n S.1 S.2.1 dX10_most_28 rfl (lv_at hl 0 rfl) ?_
        refine lv_aload_n S.1 S.2.1 dX10_most_29 rfl (lv_at hl 0 rfl) ?_
        refine g_get (a := a_t) S hK Wd iX10_most_X10 0 rfl rfl 18 rfl rfl kX10_most_1 rfl dX10_most_30 ?_
        obtain ⟨u9, hu9, hf⟩ := g_bind hF hf
        refine g_callV (ws' := (wX10_most cI cB cZ cM cJ cK  a_t a_t_text a_t_corners a_t_streets a_t_ends a_t_time a_t_leaders a_t_home a_t_feet a_t_far a_t_now a_t_isKept a_t_tried a_t_row a_t_who a_t_then a_t_best a_t_seenAs a_t_seenAt a_t_plan t_trace t_typed t_at t_start t_sort t_value t_fault t_rowLong u8.1 t_bestValue t_seen t_planMany t_streets t_ends t_time t_leaders t_home t_feet t_far t_now u8.2.1 t_row u8.2.2.1 u8.2.2.2 t_best)) (As := [.ref a_t_tried]) (rest := []) (st1 := [.int u9]) S hK hA Wd (c_X10_walked l D N cI cB cZ cM cJ cK 17 a_t a_t_text a_t_corners a_t_streets a_t_ends a_t_time a_t_leaders a_t_home a_t_feet a_t_far a_t_now a_t_isKept a_t_tried a_t_row a_t_who a_t_then a_t_best a_t_seenAs a_t_seenAt a_t_plan a_t_tried t_trace t_typed t_at t_start t_sort t_value t_fault t_rowLong u8.1 t_bestValue t_seen t_planMany t_streets u8.2.1) (cwV 1 S.2.2.2.2 gX10_most_X10_walked rfl rfl rfl n_X10_walked ⟨Nat.le_of_ble_eq_true rfl, Nat.le_of_ble_eq_true rfl⟩) hu9 [0, 1, 9] rfl rfl 0 10 rfl rfl rfl rfl rfl rfl rfl hl.1 rfl (Nat.le_of_ble_eq_true rfl) dX10_most_33 ⟨Nat.zero_le _, Nat.zero_le _⟩ (fun H locs Wd => ?_)
        obtain ⟨u10, hu10, hf⟩ := g_bind hF hf
        refine g_callS (ws' := (wX10_most cI cB cZ cM cJ cK  a_t a_t_text a_t_corners a_t_streets a_t_ends a_t_time a_t_leaders a_t_home a_t_feet a_t_far a_t_now a_t_isKept a_t_tried a_t_row a_t_who a_t_then a_t_best a_t_seenAs a_t_seenAt a_t_plan t_trace t_typed t_at t_start t_sort t_value t_fault t_rowLong u8.1 t_bestValue t_seen t_planMany t_streets t_ends t_time t_leaders t_home t_feet t_far t_now u8.2.1 t_row u8.2.2.1 u8.2.2.2 t_best)) (As := [.int u9]) (rest := []) (st1 := [.int u10]) S hK hA Wd (c_X10_manyOf l D N cI cB cZ cM cJ cK u9) (va_cwS 1 S.2.2.2.2 gX10_most_X10_manyOf rfl rfl rfl n_X10_manyOf ⟨Nat.le_of_ble_eq_true rfl, Nat.le_of_ble_eq_true rfl⟩) hu10 [] rfl rfl rfl rfl rfl rfl hl.1 rfl (Nat.le_of_ble_eq_true rfl) dX10_most_36 ⟨Nat.zero_le _, Nat.zero_le _⟩ (fun H locs Wd => ?_)
        refine lv_istore (lv' := [(4, .int u10), (0, .ref a_t), (1, .int x1), (2, .int x2), (3, .int x3)]) S.1 S.2.1 dX10_most_39 hl (by decide) rfl (fun ls hl => ?_)
        refine lv_iload S.1 S.2.1 dX10_most_41 (lv_at hl 0 rfl) ?_
        refine lv_iload_n S.1 S.2.1 dX10_most_43 rfl (lv_at hl 4 rfl) ?_
        refine lv_icmp_le (tgt := 82) S.1 S.2.1 dX10_most_44 rfl (fun c11 => ?_) (fun c11 => ?_)
        · have hf := g_if hf c11
          exact b82 (fun t_rowLong t_homes t_tried t_row t_who t_then t_best x2 x3 => fX10_most_b20 N t_streets t_ends t_time t_leaders t_home t_feet t_far t_now x1 n t_rowLong t_homes t_tried t_row t_who t_then t_best x2 x3) ih t_rowLong u8.1 u8.2.1 t_row u8.2.2.1 u8.2.2.2 t_best x3 _ _ _ Wd (lv_sub hl [1, 2, 4] rfl) hf
        · have hf := g_ifn hf c11
          refine lv_iload S.1 S.2.1 dX10_most_47 (lv_at hl 0 rfl) ?_
          refine lv_istore_n (lv' := [(3, .int u10), (4, .int u10), (0, .ref a_t), (1, .int x1), (2, .int x2)]) S.1 S.2.1 dX10_most_49 rfl hl (by decide) rfl (fun ls hl => ?_)
          refine lv_iconst (v := 0) S.1 S.2.1 dX10_most_50 (by decide) ?_
          refine lv_istore (lv' := [(5, .int (0 : Int32)), (3, .int u10), (4, .int u10), (0, .ref a_t), (1, .int x1), (2, .int x2)]) S.1 S.2.1 dX10_most_51 hl (by decide) rfl (fun ls hl => ?_)
          exact b53 (fun t_rowLong t_homes t_tried t_row t_who t_then t_best x2 x3 => fX10_most_b20 N t_streets t_ends t_time t_leaders t_home t_feet t_far t_now x1 n t_rowLong t_homes t_tried t_row t_who t_then t_best x2 x3) ih N t_rowLong u8.1 u8.2.1 t_row u8.2.2.1 u8.2.2.2 t_best u10 (0 : Int32) _ _ _ Wd (lv_sub hl [3, 4, 1, 0] rfl) hf
  refine lv_iload_n S.1 S.2.1 dX10_most_0 rfl (lv_at hl 1 rfl) ?_
  refine lv_iconst (v := (-1)) S.1 S.2.1 dX10_most_1 (by decide) ?_
  refine lv_iconst (v := 5) S.1 S.2.1 dX10_most_2 (by decide) ?_
  obtain ⟨u1, hu1, hf⟩ := g_bind hF hf
  refine g_callS (ws' := (wX10_most cI cB cZ cM cJ cK  a_t a_t_text a_t_corners a_t_streets a_t_ends a_t_time a_t_leaders a_t_home a_t_feet a_t_far a_t_now a_t_isKept a_t_tried a_t_row a_t_who a_t_then a_t_best a_t_seenAs a_t_seenAt a_t_plan t_trace t_typed t_at t_start t_sort t_value t_fault t_rowLong t_homes t_bestValue t_seen t_planMany t_streets t_ends t_time t_leaders t_home t_feet t_far t_now t_tried t_row t_who t_then t_best)) (As := [.int x1, .int (-1 : Int32), .int (5 : Int32)]) (rest := []) (st1 := [.int u1]) S hK hA Wd (c_X10_in l D N cI cB cZ cM cJ cK x1 (-1 : Int32) (5 : Int32)) (va_cwS 3 S.2.2.2.2 gX10_most_X10_in rfl rfl rfl n_X10_in ⟨Nat.le_of_ble_eq_true rfl, Nat.le_of_ble_eq_true rfl⟩) hu1 [] rfl rfl rfl rfl rfl rfl hl.1 rfl (Nat.le_of_ble_eq_true rfl) dX10_most_3 ⟨Nat.zero_le _, Nat.zero_le _⟩ (fun H locs Wd => ?_)
  refine lv_if_ne (tgt := 11) S.1 S.2.1 dX10_most_6 rfl (fun c2 => ?_) (fun c2 => ?_)
  · have hf := g_ifn hf c2
    refine lv_aload_n S.1 S.2.1 dX10_most_11 rfl (lv_at hl 0 rfl) ?_
    obtain ⟨u3, hu3, hf⟩ := g_bind hF hf
    refine g_callV (ws' := (wX10_most cI cB cZ cM cJ cK  a_t a_t_text a_t_corners a_t_streets a_t_ends a_t_time a_t_leaders a_t_home a_t_feet a_t_far a_t_now a_t_isKept a_t_tried a_t_row a_t_who a_t_then a_t_best a_t_seenAs a_t_seenAt a_t_plan t_trace t_typed t_at t_start t_sort t_value t_fault u3.1 t_homes t_bestValue t_seen t_planMany t_streets t_ends t_time t_leaders t_home t_feet t_far t_now t_tried u3.2 t_who t_then t_best)) (As := []) (rest := []) (st1 := []) S hK hA Wd (c_X10_firstRow l D N cI cB cZ cM cJ cK a_t a_t_text a_t_corners a_t_streets a_t_ends a_t_time a_t_leaders a_t_home a_t_feet a_t_far a_t_now a_t_isKept a_t_tried a_t_row a_t_who a_t_then a_t_best a_t_seenAs a_t_seenAt a_t_plan t_trace t_typed t_at t_start t_sort t_value t_fault t_rowLong t_homes t_bestValue t_seen t_planMany t_leaders t_now t_row) (cwV 0 S.2.2.2.2 gX10_most_X10_firstRow rfl rfl rfl n_X10_firstRow ⟨Nat.le_of_ble_eq_true rfl, Nat.le_of_ble_eq_true rfl⟩) hu3 [0, 4, 8, 10] rfl rfl 0 10 rfl rfl rfl rfl rfl rfl rfl hl.1 rfl (Nat.le_of_ble_eq_true rfl) dX10_most_12 ⟨Nat.zero_le _, Nat.zero_le _⟩ (fun H locs Wd => ?_)
    refine lv_iconst (v := 1) S.1 S.2.1 dX10_most_15 (by decide) ?_
    refine lv_istore_n (lv' := [(2, .int (1 : Int32)), (0, .ref a_t), (1, .int x1)]) S.1 S.2.1 dX10_most_16 rfl hl (by decide) rfl (fun ls hl => ?_)
    refine lv_bipush (v := (-9)) S.1 S.2.1 dX10_most_17 (by decide) ?_
    refine lv_istore_n (lv' := [(3, .int (-9 : Int32)), (2, .int (1 : Int32)), (0, .ref a_t), (1, .int x1)]) S.1 S.2.1 dX10_most_19 rfl hl (by decide) rfl (fun ls hl => ?_)
    exact b20  N u3.1 t_homes t_tried u3.2 t_who t_then t_best (1 : Int32) (-9 : Int32) _ _ _ Wd (lv_sub hl [2, 3, 1, 0] rfl) hf
  · have hf := g_if hf c2
    refine lv_iconst (v := (-1)) S.1 S.2.1 dX10_most_9 (by decide) ?_
    exact g_iret S Wd hr hlk dX10_most_10 ((-1 : Int32), t_rowLong, t_homes, t_tried, t_row, t_who, t_then, t_best) hf rfl rfl
def wX10_rows (cI cB cZ cM cJ cK : ClassId) (a_t a_t_text a_t_corners a_t_streets a_t_ends a_t_time a_t_leaders a_t_home a_t_feet a_t_far a_t_now a_t_isKept a_t_tried a_t_row a_t_who a_t_then a_t_best a_t_seenAs a_t_seenAt a_t_plan : Nat) (t_trace : Int64) (t_typed t_at t_start t_sort t_value t_fault t_rowLong t_homes t_bestValue t_seen t_planMany : Int32) (t_corners t_streets t_ends t_time t_leaders t_home t_feet t_far t_now t_tried t_row t_who t_then : Nat → Int32) : List va_W := [[(a_t, .inr (10, [.long t_trace, .ref a_t_text, .int t_typed, .ref a_t_corners, .ref a_t_streets, .ref a_t_ends, .ref a_t_time, .ref a_t_leaders, .ref a_t_home, .ref a_t_feet, .int t_at, .int t_start, .int t_sort, .int t_value, .int t_fault, .ref a_t_far, .ref a_t_now, .ref a_t_isKept, .ref a_t_tried, .ref a_t_row, .int t_rowLong, .ref a_t_who, .ref a_t_then, .int t_homes, .ref a_t_best, .int t_bestValue, .ref a_t_seenAs, .ref a_t_seenAt, .int t_seen, .ref a_t_plan, .int t_planMany]))], [(a_t_corners, .inl (cI, 2, .inl t_corners))], [(a_t_streets, .inl (cI, 2, .inl t_streets))], [(a_t_ends, .inl (cI, 48, .inl t_ends))], [(a_t_time, .inl (cI, 24, .inl t_time))], [(a_t_leaders, .inl (cI, 2, .inl t_leaders))], [(a_t_home, .inl (cI, 12, .inl t_home))], [(a_t_feet, .inl (cI, 12, .inl t_feet))], [(a_t_far, .inl (cI, 64, .inl t_far))], [(a_t_now, .inl (cI, 564, .inl t_now))], [(a_t_tried, .inl (cI, 17, .inl t_tried))], [(a_t_row, .inl (cI, 6, .inl t_row))], [(a_t_who, .inl (cI, 6, .inl t_who))], [(a_t_then, .inl (cI, 6, .inl t_then))]]
def rmX10_rows : Room := { frames := 3, cells := 0, slots := 0, locals := 75 }
theorem kX10_rows_1 : Cond.fieldLink RX10 17 "FeastMarchModel" "streets" "[I" ∈ wsX10_rows := List.mem_of_getElem? (i := 1) rfl
theorem kX10_rows_2 : Cond.fieldLink RX10 45 "FeastMarchModel" "tried" "[I" ∈ wsX10_rows := List.mem_of_getElem? (i := 2) rfl
theorem kX10_rows_3 : Cond.fieldLink RX10 38 "FeastMarchModel" "now" "[I" ∈ wsX10_rows := List.mem_of_getElem? (i := 3) rfl
theorem kX10_rows_4 : Cond.fieldLink RX10 13 "FeastMarchModel" "corners" "[I" ∈ wsX10_rows := List.mem_of_getElem? (i := 4) rfl
theorem kX10_rows_5 : Cond.fieldLink RX10 168 "FeastMarchModel" "homes" "I" ∈ wsX10_rows := List.mem_of_getElem? (i := 5) rfl
theorem kX10_rows_6 : Cond.fieldLink RX10 158 "FeastMarchModel" "rowLong" "I" ∈ wsX10_rows := List.mem_of_getElem? (i := 6) rfl
theorem kX10_rows_7 : Cond.fieldLink RX10 51 "FeastMarchModel" "who" "[I" ∈ wsX10_rows := List.mem_of_getElem? (i := 7) rfl
theorem iX10_rows_X10 : ∀ w ∈ wsX100, w ∈ wsX10_rows := fun _ h => List.mem_cons_of_mem _ (List.mem_append_right _ h)
theorem n_X10_rows : yX10_rows.cls = RX10 ∧ yX10_rows.cls ≠ "java/lang/invoke/MethodHandle" ∧ yX10_rows.cls ≠ "java/lang/invoke/VarHandle" ∧ (parseMethodDescriptor yX10_rows.desc).map (fun d => d.parameters.length) = some 1 := by decide +kernel
set_option maxHeartbeats 4000000 in
set_option maxRecDepth 100000 in
theorem c_X10_rows (l : Launch) (D : va_G) (N : Nat) (cI cB cZ cM cJ cK : ClassId) (a_t a_t_text a_t_corners a_t_streets a_t_ends a_t_time a_t_leaders a_t_home a_t_feet a_t_far a_t_now a_t_isKept a_t_tried a_t_row a_t_who a_t_then a_t_best a_t_seenAs a_t_seenAt a_t_plan : Nat) (t_trace : Int64) (t_typed t_at t_start t_sort t_value t_fault t_rowLong t_homes t_bestValue t_seen t_planMany : Int32) (t_corners t_streets t_ends t_time t_leaders t_home t_feet t_far t_now t_tried t_row t_who t_then : Nat → Int32) (x1 : Int32) : gM l yX10_rows wsX10_rows rmX10_rows D (gT cI cB cZ cM cJ cK) (wX10_rows cI cB cZ cM cJ cK  a_t a_t_text a_t_corners a_t_streets a_t_ends a_t_time a_t_leaders a_t_home a_t_feet a_t_far a_t_now a_t_isKept a_t_tried a_t_row a_t_who a_t_then a_t_best a_t_seenAs a_t_seenAt a_t_plan t_trace t_typed t_at t_start t_sort t_value t_fault t_rowLong t_homes t_bestValue t_seen t_planMany t_corners t_streets t_ends t_time t_leaders t_home t_feet t_far t_now t_tried t_row t_who t_then) [.ref a_t, .int x1] (fX10_rows N t_rowLong t_homes t_corners t_streets t_ends t_time t_leaders t_home t_feet t_far t_now t_tried t_row t_who t_then x1) (fun _u : Int32 × Int32 × Int32 × (Nat → Int32) × (Nat → Int32) × (Nat → Int32) × (Nat → Int32) => some (.int _u.1)) (fun _u : Int32 × Int32 × Int32 × (Nat → Int32) × (Nat → Int32) × (Nat → Int32) × (Nat → Int32) => (wX10_rows cI cB cZ cM cJ cK  a_t a_t_text a_t_corners a_t_streets a_t_ends a_t_time a_t_leaders a_t_home a_t_feet a_t_far a_t_now a_t_isKept a_t_tried a_t_row a_t_who a_t_then a_t_best a_t_seenAs a_t_seenAt a_t_plan t_trace t_typed t_at t_start t_sort t_value t_fault _u.2.1 _u.2.2.1 t_bestValue t_seen t_planMany t_corners t_streets t_ends t_time t_leaders t_home t_feet t_far t_now _u.2.2.2.1 _u.2.2.2.2.1 _u.2.2.2.2.2.1 _u.2.2.2.2.2.2)) := by
  refine g_start (cc := cX10_rows) (maxL := 10) (ret := (some .int)) (by decide) rfl (Nat.le_of_ble_eq_true rfl) ?_
  intro F hf hF p e s m below meth c A ls S hK hA Wd hr hlk hnm hl
  have b197 : ∀ (K44 : Int32 → Int32 → (Nat → Int32) → (Nat → Int32) → (Nat → Int32) → (Nat → Int32) → Int32 → Int32 → Int32 → Int32 → Int32 → Int32 → Int32 → Option (Int32 × Int32 × Int32 × (Nat → Int32) × (Nat → Int32) × (Nat → Int32) × (Nat → Int32))) (hK44 : ∀ (t_rowLong t_homes : Int32) (t_tried t_row t_who t_then : Nat → Int32) (x2 x3 x4 x5 x6 x7 x8 : Int32) (H1 : Heap) (locs1 : List Loc) (ls1 : Array Slot), gw D A s.heap (wX10_rows cI cB cZ cM cJ cK  a_t a_t_text a_t_corners a_t_streets a_t_ends a_t_time a_t_leaders a_t_home a_t_feet a_t_far a_t_now a_t_isKept a_t_tried a_t_row a_t_who a_t_then a_t_best a_t_seenAs a_t_seenAt a_t_plan t_trace t_typed t_at t_start t_sort t_value t_fault t_rowLong t_homes t_bestValue t_seen t_planMany t_corners t_streets t_ends t_time t_leaders t_home t_feet t_far t_now t_tried t_row t_who t_then) H1 locs1 → lv_has ls1 10 [(0, .ref a_t), (1, .int x1), (2, .int x2), (3, .int x3), (4, .int x4), (5, .int x5), (6, .int x6), (7, .int x7), (8, .int x8)] → F = K44 t_rowLong t_homes t_tried t_row t_who t_then x2 x3 x4 x5 x6 x7 x8 → W p l e rmX10_rows s m [.ref a_t, .int x1].toArray below meth c H1 locs1 0 0 (MQ below (gQ F (fun _u : Int32 × Int32 × Int32 × (Nat → Int32) × (Nat → Int32) × (Nat → Int32) × (Nat → Int32) => some (.int _u.1)) (fun _u : Int32 × Int32 × Int32 × (Nat → Int32) × (Nat → Int32) × (Nat → Int32) × (Nat → Int32) => (wX10_rows cI cB cZ cM cJ cK  a_t a_t_text a_t_corners a_t_streets a_t_ends a_t_time a_t_leaders a_t_home a_t_feet a_t_far a_t_now a_t_isKept a_t_tried a_t_row a_t_who a_t_then a_t_best a_t_seenAs a_t_seenAt a_t_plan t_trace t_typed t_at t_start t_sort t_value t_fault _u.2.1 _u.2.2.1 t_bestValue t_seen t_planMany t_corners t_streets t_ends t_time t_leaders t_home t_feet t_far t_now _u.2.2.2.1 _u.2.2.2.2.1 _u.2.2.2.2.2.1 _u.2.2.2.2.2.2)) D A) [.ref a_t, .int x1].toArray s 0 0 A) (F0 m 44 ls1 [])) , ∀ (t_rowLong t_homes : Int32) (t_tried t_row t_who t_then : Nat → Int32) (x2 x3 x4 x5 x6 y0 y1 : Int32) (H1 : Heap) (locs1 : List Loc) (ls1 : Array Slot), gw D A s.heap (wX10_rows cI cB cZ cM cJ cK  a_t a_t_text a_t_corners a_t_streets a_t_ends a_t_time a_t_leaders a_t_home a_t_feet a_t_far a_t_now a_t_isKept a_t_tried a_t_row a_t_who a_t_then a_t_best a_t_seenAs a_t_seenAt a_t_plan t_trace t_typed t_at t_start t_sort t_value t_fault t_rowLong t_homes t_bestValue t_seen t_planMany t_corners t_streets t_ends t_time t_leaders t_home t_feet t_far t_now t_tried t_row t_who t_then) H1 locs1 → lv_has ls1 10 [(0, .ref a_t), (1, .int x1), (2, .int x2), (3, .int x3), (4, .int x4), (5, .int x5), (6, .int x6)] → F = fX10_rows_b197 N t_corners t_streets t_ends t_time t_leaders t_home t_feet t_far t_now x1 K44 t_rowLong t_homes t_tried t_row t_who t_then x2 x3 x4 x5 x6 y0 y1 → W p l e rmX10_rows s m [.ref a_t, .int x1].toArray below meth c H1 locs1 0 0 (MQ below (gQ F (fun _u : Int32 × Int32 × Int32 × (Nat → Int32) × (Nat → Int32) × (Nat → Int32) × (Nat → Int32) => some (.int _u.1)) (fun _u : Int32 × Int32 × Int32 × (Nat → Int32) × (Nat → Int32) × (Nat → Int32) × (Nat → Int32) => (wX10_rows cI cB cZ cM cJ cK  a_t a_t_text a_t_corners a_t_streets a_t_ends a_t_time a_t_leaders a_t_home a_t_feet a_t_far a_t_now a_t_isKept a_t_tried a_t_row a_t_who a_t_then a_t_best a_t_seenAs a_t_seenAt a_t_plan t_trace t_typed t_at t_start t_sort t_value t_fault _u.2.1 _u.2.2.1 t_bestValue t_seen t_planMany t_corners t_streets t_ends t_time t_leaders t_home t_feet t_far t_now _u.2.2.2.1 _u.2.2.2.2.1 _u.2.2.2.2.2.1 _u.2.2.2.2.2.2)) D A) [.ref a_t, .int x1].toArray s 0 0 A) (F0 m 197 ls1 [.int y0, .int y1]) := by
    intro K44 hK44 t_rowLong t_homes t_tried t_row t_who t_then x2 x3 x4 x5 x6 y0 y1 H locs ls Wd hl hf
    refine lv_ior S.1 S.2.1 dX10_rows_197 ?_
    refine lv_istore (lv' := [(7, .int (y1 ||| y0)), (0, .ref a_t), (1, .int x1), (2, .int x2), (3, .int x3), (4, .int x4), (5, .int x5), (6, .int x6)]) S.1 S.2.1 dX10_rows_198 hl (by decide) rfl (fun ls hl => ?_)
    refine lv_aload_n S.1 S.2.1 dX10_rows_200 rfl (lv_at hl 1 rfl) ?_
    obtain ⟨u21, hu21, hf⟩ := g_bind hF hf
    refine g_callV (ws' := (wX10_rows cI cB cZ cM cJ cK  a_t a_t_text a_t_corners a_t_streets a_t_ends a_t_time a_t_leaders a_t_home a_t_feet a_t_far a_t_now a_t_isKept a_t_tried a_t_row a_t_who a_t_then a_t_best a_t_seenAs a_t_seenAt a_t_plan t_trace t_typed t_at t_start t_sort t_value t_fault t_rowLong t_homes t_bestValue t_seen t_planMany t_corners t_streets t_ends t_time t_leaders t_home t_feet t_far t_now t_tried u21.2 t_who t_then)) (As := []) (rest := []) (st1 := [.int u21.1]) S hK hA Wd (c_X10_nextRow l D N cI cB cZ cM cJ cK a_t a_t_text a_t_corners a_t_streets a_t_ends a_t_time a_t_leaders a_t_home a_t_feet a_t_far a_t_now a_t_isKept a_t_tried a_t_row a_t_who a_t_then a_t_best a_t_seenAs a_t_seenAt a_t_plan t_trace t_typed t_at t_start t_sort t_value t_fault t_rowLong t_homes t_bestValue t_seen t_planMany t_row) (cwV 0 S.2.2.2.2 gX10_rows_X10_nextRow rfl rfl rfl n_X10_nextRow ⟨Nat.le_of_ble_eq_true rfl, Nat.le_of_ble_eq_true rfl⟩) hu21 [0, 11] rfl rfl 0 10 rfl rfl rfl rfl rfl rfl rfl hl.1 rfl (Nat.le_of_ble_eq_true rfl) dX10_rows_201 ⟨Nat.zero_le _, Nat.zero_le _⟩ (fun H locs Wd => ?_)
    refine lv_istore (lv' := [(8, .int u21.1), (7, .int (y1 ||| y0)), (0, .ref a_t), (1, .int x1), (2, .int x2), (3, .int x3), (4, .int x4), (5, .int x5), (6, .int x6)]) S.1 S.2.1 dX10_rows_204 hl (by decide) rfl (fun ls hl => ?_)
    refine lv_goto (tgt := 44) S.1 S.2.1 dX10_rows_206 rfl ?_
    exact hK44 t_rowLong t_homes t_tried u21.2 t_who t_then x2 x3 x4 x5 x6 (y1 ||| y0) u21.1 _ _ _ Wd (lv_sub hl [2, 3, 4, 5, 6, 7, 8, 1, 0] rfl) hf
  have b196 : ∀ (K44 : Int32 → Int32 → (Nat → Int32) → (Nat → Int32) → (Nat → Int32) → (Nat → Int32) → Int32 → Int32 → Int32 → Int32 → Int32 → Int32 → Int32 → Option (Int32 × Int32 × Int32 × (Nat → Int32) × (Nat → Int32) × (Nat → Int32) × (Nat → Int32))) (hK44 : ∀ (t_rowLong t_homes : Int32) (t_tried t_row t_who t_then : Nat → Int32) (x2 x3 x4 x5 x6 x7 x8 : Int32) (H1 : Heap) (locs1 : List Loc) (ls1 : Array Slot), gw D A s.heap (wX10_rows cI cB cZ cM cJ cK  a_t a_t_text a_t_corners a_t_streets a_t_ends a_t_time a_t_leaders a_t_home a_t_feet a_t_far a_t_now a_t_isKept a_t_tried a_t_row a_t_who a_t_then a_t_best a_t_seenAs a_t_seenAt a_t_plan t_trace t_typed t_at t_start t_sort t_value t_fault t_rowLong t_homes t_bestValue t_seen t_planMany t_corners t_streets t_ends t_time t_leaders t_home t_feet t_far t_now t_tried t_row t_who t_then) H1 locs1 → lv_has ls1 10 [(0, .ref a_t), (1, .int x1), (2, .int x2), (3, .int x3), (4, .int x4), (5, .int x5), (6, .int x6), (7, .int x7), (8, .int x8)] → F = K44 t_rowLong t_homes t_tried t_row t_who t_then x2 x3 x4 x5 x6 x7 x8 → W p l e rmX10_rows s m [.ref a_t, .int x1].toArray below meth c H1 locs1 0 0 (MQ below (gQ F (fun _u : Int32 × Int32 × Int32 × (Nat → Int32) × (Nat → Int32) × (Nat → Int32) × (Nat → Int32) => some (.int _u.1)) (fun _u : Int32 × Int32 × Int32 × (Nat → Int32) × (Nat → Int32) × (Nat → Int32) × (Nat → Int32) => (wX10_rows cI cB cZ cM cJ cK  a_t a_t_text a_t_corners a_t_streets a_t_ends a_t_time a_t_leaders a_t_home a_t_feet a_t_far a_t_now a_t_isKept a_t_tried a_t_row a_t_who a_t_then a_t_best a_t_seenAs a_t_seenAt a_t_plan t_trace t_typed t_at t_start t_sort t_value t_fault _u.2.1 _u.2.2.1 t_bestValue t_seen t_planMany t_corners t_streets t_ends t_time t_leaders t_home t_feet t_far t_now _u.2.2.2.1 _u.2.2.2.2.1 _u.2.2.2.2.2.1 _u.2.2.2.2.2.2)) D A) [.ref a_t, .int x1].toArray s 0 0 A) (F0 m 44 ls1 [])) , ∀ (t_rowLong t_homes : Int32) (t_tried t_row t_who t_then : Nat → Int32) (x2 x3 x4 x5 x6 y0 : Int32) (H1 : Heap) (locs1 : List Loc) (ls1 : Array Slot), gw D A s.heap (wX10_rows cI cB cZ cM cJ cK  a_t a_t_text a_t_corners a_t_streets a_t_ends a_t_time a_t_leaders a_t_home a_t_feet a_t_far a_t_now a_t_isKept a_t_tried a_t_row a_t_who a_t_then a_t_best a_t_seenAs a_t_seenAt a_t_plan t_trace t_typed t_at t_start t_sort t_value t_fault t_rowLong t_homes t_bestValue t_seen t_planMany t_corners t_streets t_ends t_time t_leaders t_home t_feet t_far t_now t_tried t_row t_who t_then) H1 locs1 → lv_has ls1 10 [(0, .ref a_t), (1, .int x1), (2, .int x2), (3, .int x3), (4, .int x4), (5, .int x5), (6, .int x6)] → F = fX10_rows_b196 N t_corners t_streets t_ends t_time t_leaders t_home t_feet t_far t_now x1 K44 t_rowLong t_homes t_tried t_row t_who t_then x2 x3 x4 x5 x6 y0 → W p l e rmX10_rows s m [.ref a_t, .int x1].toArray below meth c H1 locs1 0 0 (MQ below (gQ F (fun _u : Int32 × Int32 × Int32 × (Nat → Int32) × (Nat → Int32) × (Nat → Int32) × (Nat → Int32) => some (.int _u.1)) (fun _u : Int32 × Int32 × Int32 × (Nat → Int32) × (Nat → Int32) × (Nat → Int32) × (Nat → Int32) => (wX10_rows cI cB cZ cM cJ cK  a_t a_t_text a_t_corners a_t_streets a_t_ends a_t_time a_t_leaders a_t_home a_t_feet a_t_far a_t_now a_t_isKept a_t_tried a_t_row a_t_who a_t_then a_t_best a_t_seenAs a_t_seenAt a_t_plan t_trace t_typed t_at t_start t_sort t_value t_fault _u.2.1 _u.2.2.1 t_bestValue t_seen t_planMany t_corners t_streets t_ends t_time t_leaders t_home t_feet t_far t_now _u.2.2.2.1 _u.2.2.2.2.1 _u.2.2.2.2.2.1 _u.2.2.2.2.2.2)) D A) [.ref a_t, .int x1].toArray s 0 0 A) (F0 m 196 ls1 [.int y0]) := by
    intro K44 hK44 t_rowLong t_homes t_tried t_row t_who t_then x2 x3 x4 x5 x6 y0 H locs ls Wd hl hf
    refine lv_iconst (v := 0) S.1 S.2.1 dX10_rows_196 (by decide) ?_
    exact b197 K44 hK44 t_rowLong t_homes t_tried t_row t_who t_then x2 x3 x4 x5 x6 (0 : Int32) y0 _ _ _ Wd hl hf
  have b162 : ∀ (K44 : Int32 → Int32 → (Nat → Int32) → (Nat → Int32) → (Nat → Int32) → (Nat → Int32) → Int32 → Int32 → Int32 → Int32 → Int32 → Int32 → Int32 → Option (Int32 × Int32 × Int32 × (Nat → Int32) × (Nat → Int32) × (Nat → Int32) × (Nat → Int32))) (hK44 : ∀ (t_rowLong t_homes : Int32) (t_tried t_row t_who t_then : Nat → Int32) (x2 x3 x4 x5 x6 x7 x8 : Int32) (H1 : Heap) (locs1 : List Loc) (ls1 : Array Slot), gw D A s.heap (wX10_rows cI cB cZ cM cJ cK  a_t a_t_text a_t_corners a_t_streets a_t_ends a_t_time a_t_leaders a_t_home a_t_feet a_t_far a_t_now a_t_isKept a_t_tried a_t_row a_t_who a_t_then a_t_best a_t_seenAs a_t_seenAt a_t_plan t_trace t_typed t_at t_start t_sort t_value t_fault t_rowLong t_homes t_bestValue t_seen t_planMany t_corners t_streets t_ends t_time t_leaders t_home t_feet t_far t_now t_tried t_row t_who t_then) H1 locs1 → lv_has ls1 10 [(0, .ref a_t), (1, .int x1), (2, .int x2), (3, .int x3), (4, .int x4), (5, .int x5), (6, .int x6), (7, .int x7), (8, .int x8)] → F = K44 t_rowLong t_homes t_tried t_row t_who t_then x2 x3 x4 x5 x6 x7 x8 → W p l e rmX10_rows s m [.ref a_t, .int x1].toArray below meth c H1 locs1 0 0 (MQ below (gQ F (fun _u : Int32 × Int32 × Int32 × (Nat → Int32) × (Nat → Int32) × (Nat → Int32) × (Nat → Int32) => some (.int _u.1)) (fun _u : Int32 × Int32 × Int32 × (Nat → Int32) × (Nat → Int32) × (Nat → Int32) × (Nat → Int32) => (wX10_rows cI cB cZ cM cJ cK  a_t a_t_text a_t_corners a_t_streets a_t_ends a_t_time a_t_leaders a_t_home a_t_feet a_t_far a_t_now a_t_isKept a_t_tried a_t_row a_t_who a_t_then a_t_best a_t_seenAs a_t_seenAt a_t_plan t_trace t_typed t_at t_start t_sort t_value t_fault _u.2.1 _u.2.2.1 t_bestValue t_seen t_planMany t_corners t_streets t_ends t_time t_leaders t_home t_feet t_far t_now _u.2.2.2.1 _u.2.2.2.2.1 _u.2.2.2.2.2.1 _u.2.2.2.2.2.2)) D A) [.ref a_t, .int x1].toArray s 0 0 A) (F0 m 44 ls1 [])) , ∀ (t_rowLong t_homes : Int32) (t_tried t_row t_who t_then : Nat → Int32) (x2 x3 x4 x5 x7 y0 : Int32) (H1 : Heap) (locs1 : List Loc) (ls1 : Array Slot), gw D A s.heap (wX10_rows cI cB cZ cM cJ cK  a_t a_t_text a_t_corners a_t_streets a_t_ends a_t_time a_t_leaders a_t_home a_t_feet a_t_far a_t_now a_t_isKept a_t_tried a_t_row a_t_who a_t_then a_t_best a_t_seenAs a_t_seenAt a_t_plan t_trace t_typed t_at t_start t_sort t_value t_fault t_rowLong t_homes t_bestValue t_seen t_planMany t_corners t_streets t_ends t_time t_leaders t_home t_feet t_far t_now t_tried t_row t_who t_then) H1 locs1 → lv_has ls1 10 [(0, .ref a_t), (1, .int x1), (2, .int x2), (3, .int x3), (4, .int x4), (5, .int x5), (7, .int x7)] → F = fX10_rows_b162 N t_corners t_streets t_ends t_time t_leaders t_home t_feet t_far t_now x1 K44 t_rowLong t_homes t_tried t_row t_who t_then x2 x3 x4 x5 x7 y0 → W p l e rmX10_rows s m [.ref a_t, .int x1].toArray below meth c H1 locs1 0 0 (MQ below (gQ F (fun _u : Int32 × Int32 × Int32 × (Nat → Int32) × (Nat → Int32) × (Nat → Int32) × (Nat → Int32) => some (.int _u.1)) (fun _u : Int32 × Int32 × Int32 × (Nat → Int32) × (Nat → Int32) × (Nat → Int32) × (Nat → Int32) => (wX10_rows cI cB cZ cM cJ cK  a_t a_t_text a_t_corners a_t_streets a_t_ends a_t_time a_t_leaders a_t_home a_t_feet a_t_far a_t_now a_t_isKept a_t_tried a_t_row a_t_who a_t_then a_t_best a_t_seenAs a_t_seenAt a_t_plan t_trace t_typed t_at t_start t_sort t_value t_fault _u.2.1 _u.2.2.1 t_bestValue t_seen t_planMany t_corners t_streets t_ends t_time t_leaders t_home t_feet t_far t_now _u.2.2.2.1 _u.2.2.2.2.1 _u.2.2.2.2.2.1 _u.2.2.2.2.2.2)) D A) [.ref a_t, .int x1].toArray s 0 0 A) (F0 m 162 ls1 [.int y0]) := by
    intro K44 hK44 t_rowLong t_homes t_tried t_row t_who t_then x2 x3 x4 x5 x7 y0 H locs ls Wd hl hf
    refine lv_istore (lv' := [(6, .int y0), (0, .ref a_t), (1, .int x1), (2, .int x2), (3, .int x3), (4, .int x4), (5, .int x5), (7, .int x7)]) S.1 S.2.1 dX10_rows_162 hl (by decide) rfl (fun ls hl => ?_)
    refine lv_iload S.1 S.2.1 dX10_rows_164 (lv_at hl 7 rfl) ?_
    refine lv_aload_n S.1 S.2.1 dX10_rows_166 rfl (lv_at hl 1 rfl) ?_
    obtain ⟨u17, hu17, hf⟩ := g_bind hF hf
    refine g_callV (ws' := (wX10_rows cI cB cZ cM cJ cK  a_t a_t_text a_t_corners a_t_streets a_t_ends a_t_time a_t_leaders a_t_home a_t_feet a_t_far a_t_now a_t_isKept a_t_tried a_t_row a_t_who a_t_then a_t_best a_t_seenAs a_t_seenAt a_t_plan t_trace t_typed t_at t_start t_sort t_value t_fault t_rowLong t_homes t_bestValue t_seen t_planMany t_corners t_streets t_ends t_time t_leaders t_home t_feet t_far t_now t_tried t_row t_who t_then)) (As := []) (rest := [.int x7]) (st1 := [.int u17, .int x7]) S hK hA Wd (c_X10_isAtDoor l D N cI cB cZ cM cJ cK a_t a_t_text a_t_corners a_t_streets a_t_ends a_t_time a_t_leaders a_t_home a_t_feet a_t_far a_t_now a_t_isKept a_t_tried a_t_row a_t_who a_t_then a_t_best a_t_seenAs a_t_seenAt a_t_plan t_trace t_typed t_at t_start t_sort t_value t_fault t_rowLong t_homes t_bestValue t_seen t_planMany t_corners t_tried) (cwV 0 S.2.2.2.2 gX10_rows_X10_isAtDoor rfl rfl rfl n_X10_isAtDoor ⟨Nat.le_of_ble_eq_true rfl, Nat.le_of_ble_eq_true rfl⟩) hu17 [0, 1, 10] rfl rfl 0 10 rfl rfl rfl rfl rfl rfl rfl hl.1 rfl (Nat.le_of_ble_eq_true rfl) dX10_rows_167 ⟨Nat.zero_le _, Nat.zero_le _⟩ (fun H locs Wd => ?_)
    refine lv_if_eq (tgt := 196) S.1 S.2.1 dX10_rows_170 rfl (fun c18 => ?_) (fun c18 => ?_)
    · have hf := g_if hf c18
      exact b196 K44 hK44 t_rowLong t_homes t_tried t_row t_who t_then x2 x3 x4 x5 y0 x7 _ _ _ Wd (lv_sub hl [1, 2, 3, 4, 5, 6, 0] rfl) hf
    · have hf := g_ifn hf c18
      refine lv_aload_n S.1 S.2.1 dX10_rows_173 rfl (lv_at hl 1 rfl) ?_
      refine g_get (a := a_t) S hK Wd iX10_rows_X10 0 rfl rfl 20 rfl rfl kX10_rows_6 rfl dX10_rows_174 ?_
      refine lv_if_le (tgt := 196) S.1 S.2.1 dX10_rows_177 rfl (fun c19 => ?_) (fun c19 => ?_)
      · have hf := g_if hf c19
        exact b196 K44 hK44 t_rowLong t_homes t_tried t_row t_who t_then x2 x3 x4 x5 y0 x7 _ _ _ Wd (lv_sub hl [1, 2, 3, 4, 5, 6, 0] rfl) hf
      · have hf := g_ifn hf c19
        refine lv_iconst (v := 1) S.1 S.2.1 dX10_rows_180 (by decide) ?_
        refine lv_aload_n S.1 S.2.1 dX10_rows_181 rfl (lv_at hl 1 rfl) ?_
        refine g_get (a := a_t) S hK Wd iX10_rows_X10 0 rfl rfl 21 rfl rfl kX10_rows_7 rfl dX10_rows_182 ?_
        refine lv_aload_n S.1 S.2.1 dX10_rows_185 rfl (lv_at hl 1 rfl) ?_
        refine g_get (a := a_t) S hK Wd iX10_rows_X10 0 rfl rfl 20 rfl rfl kX10_rows_6 rfl dX10_rows_186 ?_
        refine lv_iconst (v := 1) S.1 S.2.1 dX10_rows_189 (by decide) ?_
        refine lv_isub S.1 S.2.1 dX10_rows_190 ?_
        obtain ⟨h20, hf⟩ := g_gi hF hf
        refine g_iald (a := a_t_who) S hK Wd 12 0 rfl rfl h20 dX10_rows_191 ?_
        refine lv_ishl S.1 S.2.1 dX10_rows_192 ?_
        refine lv_goto (tgt := 197) S.1 S.2.1 dX10_rows_193 rfl ?_
        exact b197 K44 hK44 t_rowLong t_homes t_tried t_row t_who t_then x2 x3 x4 x5 y0 ((1 : Int32) <<< ((t_who (t_rowLong - (1 : Int32)).toNatClampNeg) &&& 31)) x7 _ _ _ Wd (lv_sub hl [1, 2, 3, 4, 5, 6, 0] rfl) hf
  have b146 : ∀ (K44 : Int32 → Int32 → (Nat → Int32) → (Nat → Int32) → (Nat → Int32) → (Nat → Int32) → Int32 → Int32 → Int32 → Int32 → Int32 → Int32 → Int32 → Option (Int32 × Int32 × Int32 × (Nat → Int32) × (Nat → Int32) × (Nat → Int32) × (Nat → Int32))) (hK44 : ∀ (t_rowLong t_homes : Int32) (t_tried t_row t_who t_then : Nat → Int32) (x2 x3 x4 x5 x6 x7 x8 : Int32) (H1 : Heap) (locs1 : List Loc) (ls1 : Array Slot), gw D A s.heap (wX10_rows cI cB cZ cM cJ cK  a_t a_t_text a_t_corners a_t_streets a_t_ends a_t_time a_t_leaders a_t_home a_t_feet a_t_far a_t_now a_t_isKept a_t_tried a_t_row a_t_who a_t_then a_t_best a_t_seenAs a_t_seenAt a_t_plan t_trace t_typed t_at t_start t_sort t_value t_fault t_rowLong t_homes t_bestValue t_seen t_planMany t_corners t_streets t_ends t_time t_leaders t_home t_feet t_far t_now t_tried t_row t_who t_then) H1 locs1 → lv_has ls1 10 [(0, .ref a_t), (1, .int x1), (2, .int x2), (3, .int x3), (4, .int x4), (5, .int x5), (6, .int x6), (7, .int x7), (8, .int x8)] → F = K44 t_rowLong t_homes t_tried t_row t_who t_then x2 x3 x4 x5 x6 x7 x8 → W p l e rmX10_rows s m [.ref a_t, .int x1].toArray below meth c H1 locs1 0 0 (MQ below (gQ F (fun _u : Int32 × Int32 × Int32 × (Nat → Int32) × (Nat → Int32) × (Nat → Int32) × (Nat → Int32) => some (.int _u.1)) (fun _u : Int32 × Int32 × Int32 × (Nat → Int32) × (Nat → Int32) × (Nat → Int32) × (Nat → Int32) => (wX10_rows cI cB cZ cM cJ cK  a_t a_t_text a_t_corners a_t_streets a_t_ends a_t_time a_t_leaders a_t_home a_t_feet a_t_far a_t_now a_t_isKept a_t_tried a_t_row a_t_who a_t_then a_t_best a_t_seenAs a_t_seenAt a_t_plan t_trace t_typed t_at t_start t_sort t_value t_fault _u.2.1 _u.2.2.1 t_bestValue t_seen t_planMany t_corners t_streets t_ends t_time t_leaders t_home t_feet t_far t_now _u.2.2.2.1 _u.2.2.2.2.1 _u.2.2.2.2.2.1 _u.2.2.2.2.2.2)) D A) [.ref a_t, .int x1].toArray s 0 0 A) (F0 m 44 ls1 [])) , ∀ (t_rowLong t_homes : Int32) (t_tried t_row t_who t_then : Nat → Int32) (x2 x3 x4 x6 x7 x9 y0 : Int32) (H1 : Heap) (locs1 : List Loc) (ls1 : Array Slot), gw D A s.heap (wX10_rows cI cB cZ cM cJ cK  a_t a_t_text a_t_corners a_t_streets a_t_ends a_t_time a_t_leaders a_t_home a_t_feet a_t_far a_t_now a_t_isKept a_t_tried a_t_row a_t_who a_t_then a_t_best a_t_seenAs a_t_seenAt a_t_plan t_trace t_typed t_at t_start t_sort t_value t_fault t_rowLong t_homes t_bestValue t_seen t_planMany t_corners t_streets t_ends t_time t_leaders t_home t_feet t_far t_now t_tried t_row t_who t_then) H1 locs1 → lv_has ls1 10 [(0, .ref a_t), (1, .int x1), (2, .int x2), (3, .int x3), (4, .int x4), (6, .int x6), (7, .int x7), (9, .int x9)] → F = fX10_rows_b146 N t_corners t_streets t_ends t_time t_leaders t_home t_feet t_far t_now x1 K44 t_rowLong t_homes t_tried t_row t_who t_then x2 x3 x4 x6 x7 x9 y0 → W p l e rmX10_rows s m [.ref a_t, .int x1].toArray below meth c H1 locs1 0 0 (MQ below (gQ F (fun _u : Int32 × Int32 × Int32 × (Nat → Int32) × (Nat → Int32) × (Nat → Int32) × (Nat → Int32) => some (.int _u.1)) (fun _u : Int32 × Int32 × Int32 × (Nat → Int32) × (Nat → Int32) × (Nat → Int32) × (Nat → Int32) => (wX10_rows cI cB cZ cM cJ cK  a_t a_t_text a_t_corners a_t_streets a_t_ends a_t_time a_t_leaders a_t_home a_t_feet a_t_far a_t_now a_t_isKept a_t_tried a_t_row a_t_who a_t_then a_t_best a_t_seenAs a_t_seenAt a_t_plan t_trace t_typed t_at t_start t_sort t_value t_fault _u.2.1 _u.2.2.1 t_bestValue t_seen t_planMany t_corners t_streets t_ends t_time t_leaders t_home t_feet t_far t_now _u.2.2.2.1 _u.2.2.2.2.1 _u.2.2.2.2.2.1 _u.2.2.2.2.2.2)) D A) [.ref a_t, .int x1].toArray s 0 0 A) (F0 m 146 ls1 [.int y0]) := by
    intro K44 hK44 t_rowLong t_homes t_tried t_row t_who t_then x2 x3 x4 x6 x7 x9 y0 H locs ls Wd hl hf
    refine lv_istore (lv' := [(5, .int y0), (0, .ref a_t), (1, .int x1), (2, .int x2), (3, .int x3), (4, .int x4), (6, .int x6), (7, .int x7), (9, .int x9)]) S.1 S.2.1 dX10_rows_146 hl (by decide) rfl (fun ls hl => ?_)
    refine lv_iload S.1 S.2.1 dX10_rows_148 (lv_at hl 8 rfl) ?_
    refine lv_iload S.1 S.2.1 dX10_rows_150 (lv_at hl 6 rfl) ?_
    refine lv_icmp_le (tgt := 160) S.1 S.2.1 dX10_rows_152 rfl (fun c16 => ?_) (fun c16 => ?_)
    · have hf := g_if hf c16
      refine lv_iload S.1 S.2.1 dX10_rows_160 (lv_at hl 6 rfl) ?_
      exact b162 K44 hK44 t_rowLong t_homes t_tried t_row t_who t_then x2 x3 x4 y0 x7 x6 _ _ _ Wd (lv_sub hl [1, 2, 3, 4, 5, 0, 7] rfl) hf
    · have hf := g_ifn hf c16
      refine lv_iload S.1 S.2.1 dX10_rows_155 (lv_at hl 8 rfl) ?_
      refine lv_goto (tgt := 162) S.1 S.2.1 dX10_rows_157 rfl ?_
      exact b162 K44 hK44 t_rowLong t_homes t_tried t_row t_who t_then x2 x3 x4 y0 x7 x9 _ _ _ Wd (lv_sub hl [1, 2, 3, 4, 5, 0, 7] rfl) hf
  have b139 : ∀ (K44 : Int32 → Int32 → (Nat → Int32) → (Nat → Int32) → (Nat → Int32) → (Nat → Int32) → Int32 → Int32 → Int32 → Int32 → Int32 → Int32 → Int32 → Option (Int32 × Int32 × Int32 × (Nat → Int32) × (Nat → Int32) × (Nat → Int32) × (Nat → Int32))) (hK44 : ∀ (t_rowLong t_homes : Int32) (t_tried t_row t_who t_then : Nat → Int32) (x2 x3 x4 x5 x6 x7 x8 : Int32) (H1 : Heap) (locs1 : List Loc) (ls1 : Array Slot), gw D A s.heap (wX10_rows cI cB cZ cM cJ cK  a_t a_t_text a_t_corners a_t_streets a_t_ends a_t_time a_t_leaders a_t_home a_t_feet a_t_far a_t_now a_t_isKept a_t_tried a_t_row a_t_who a_t_then a_t_best a_t_seenAs a_t_seenAt a_t_plan t_trace t_typed t_at t_start t_sort t_value t_fault t_rowLong t_homes t_bestValue t_seen t_planMany t_corners t_streets t_ends t_time t_leaders t_home t_feet t_far t_now t_tried t_row t_who t_then) H1 locs1 → lv_has ls1 10 [(0, .ref a_t), (1, .int x1), (2, .int x2), (3, .int x3), (4, .int x4), (5, .int x5), (6, .int x6), (7, .int x7), (8, .int x8)] → F = K44 t_rowLong t_homes t_tried t_row t_who t_then x2 x3 x4 x5 x6 x7 x8 → W p l e rmX10_rows s m [.ref a_t, .int x1].toArray below meth c H1 locs1 0 0 (MQ below (gQ F (fun _u : Int32 × Int32 × Int32 × (Nat → Int32) × (Nat → Int32) × (Nat → Int32) × (Nat → Int32) => some (.int _u.1)) (fun _u : Int32 × Int32 × Int32 × (Nat → Int32) × (Nat → Int32) × (Nat → Int32) × (Nat → Int32) => (wX10_rows cI cB cZ cM cJ cK  a_t a_t_text a_t_corners a_t_streets a_t_ends a_t_time a_t_leaders a_t_home a_t_feet a_t_far a_t_now a_t_isKept a_t_tried a_t_row a_t_who a_t_then a_t_best a_t_seenAs a_t_seenAt a_t_plan t_trace t_typed t_at t_start t_sort t_value t_fault _u.2.1 _u.2.2.1 t_bestValue t_seen t_planMany t_corners t_streets t_ends t_time t_leaders t_home t_feet t_far t_now _u.2.2.2.1 _u.2.2.2.2.1 _u.2.2.2.2.2.1 _u.2.2.2.2.2.2)) D A) [.ref a_t, .int x1].toArray s 0 0 A) (F0 m 44 ls1 [])) , ∀ (t_rowLong t_homes : Int32) (t_tried t_row t_who t_then : Nat → Int32) (x2 x3 x4 x6 x7 x9 : Int32) (H1 : Heap) (locs1 : List Loc) (ls1 : Array Slot), gw D A s.heap (wX10_rows cI cB cZ cM cJ cK  a_t a_t_text a_t_corners a_t_streets a_t_ends a_t_time a_t_leaders a_t_home a_t_feet a_t_far a_t_now a_t_isKept a_t_tried a_t_row a_t_who a_t_then a_t_best a_t_seenAs a_t_seenAt a_t_plan t_trace t_typed t_at t_start t_sort t_value t_fault t_rowLong t_homes t_bestValue t_seen t_planMany t_corners t_streets t_ends t_time t_leaders t_home t_feet t_far t_now t_tried t_row t_who t_then) H1 locs1 → lv_has ls1 10 [(0, .ref a_t), (1, .int x1), (2, .int x2), (3, .int x3), (4, .int x4), (6, .int x6), (7, .int x7), (9, .int x9)] → F = fX10_rows_b139 N t_corners t_streets t_ends t_time t_leaders t_home t_feet t_far t_now x1 K44 t_rowLong t_homes t_tried t_row t_who t_then x2 x3 x4 x6 x7 x9 → W p l e rmX10_rows s m [.ref a_t, .int x1].toArray below meth c H1 locs1 0 0 (MQ below (gQ F (fun _u : Int32 × Int32 × Int32 × (Nat → Int32) × (Nat → Int32) × (Nat → Int32) × (Nat → Int32) => some (.int _u.1)) (fun _u : Int32 × Int32 × Int32 × (Nat → Int32) × (Nat → Int32) × (Nat → Int32) × (Nat → Int32) => (wX10_rows cI cB cZ cM cJ cK  a_t a_t_text a_t_corners a_t_streets a_t_ends a_t_time a_t_leaders a_t_home a_t_feet a_t_far a_t_now a_t_isKept a_t_tried a_t_row a_t_who a_t_then a_t_best a_t_seenAs a_t_seenAt a_t_plan t_trace t_typed t_at t_start t_sort t_value t_fault _u.2.1 _u.2.2.1 t_bestValue t_seen t_planMany t_corners t_streets t_ends t_time t_leaders t_home t_feet t_far t_now _u.2.2.2.1 _u.2.2.2.2.1 _u.2.2.2.2.2.1 _u.2.2.2.2.2.2)) D A) [.ref a_t, .int x1].toArray s 0 0 A) (F0 m 139 ls1 []) := by
    intro K44 hK44 t_rowLong t_homes t_tried t_row t_who t_then x2 x3 x4 x6 x7 x9 H locs ls Wd hl hf
    refine lv_iload S.1 S.2.1 dX10_rows_139 (lv_at hl 7 rfl) ?_
    refine lv_goto (tgt := 146) S.1 S.2.1 dX10_rows_141 rfl ?_
    exact b146 K44 hK44 t_rowLong t_homes t_tried t_row t_who t_then x2 x3 x4 x6 x7 x9 x9 _ _ _ Wd hl hf
  have b123 : ∀ (K44 : Int32 → Int32 → (Nat → Int32) → (Nat → Int32) → (Nat → Int32) → (Nat → Int32) → Int32 → Int32 → Int32 → Int32 → Int32 → Int32 → Int32 → Option (Int32 × Int32 × Int32 × (Nat → Int32) × (Nat → Int32) × (Nat → Int32) × (Nat → Int32))) (hK44 : ∀ (t_rowLong t_homes : Int32) (t_tried t_row t_who t_then : Nat → Int32) (x2 x3 x4 x5 x6 x7 x8 : Int32) (H1 : Heap) (locs1 : List Loc) (ls1 : Array Slot), gw D A s.heap (wX10_rows cI cB cZ cM cJ cK  a_t a_t_text a_t_corners a_t_streets a_t_ends a_t_time a_t_leaders a_t_home a_t_feet a_t_far a_t_now a_t_isKept a_t_tried a_t_row a_t_who a_t_then a_t_best a_t_seenAs a_t_seenAt a_t_plan t_trace t_typed t_at t_start t_sort t_value t_fault t_rowLong t_homes t_bestValue t_seen t_planMany t_corners t_streets t_ends t_time t_leaders t_home t_feet t_far t_now t_tried t_row t_who t_then) H1 locs1 → lv_has ls1 10 [(0, .ref a_t), (1, .int x1), (2, .int x2), (3, .int x3), (4, .int x4), (5, .int x5), (6, .int x6), (7, .int x7), (8, .int x8)] → F = K44 t_rowLong t_homes t_tried t_row t_who t_then x2 x3 x4 x5 x6 x7 x8 → W p l e rmX10_rows s m [.ref a_t, .int x1].toArray below meth c H1 locs1 0 0 (MQ below (gQ F (fun _u : Int32 × Int32 × Int32 × (Nat → Int32) × (Nat → Int32) × (Nat → Int32) × (Nat → Int32) => some (.int _u.1)) (fun _u : Int32 × Int32 × Int32 × (Nat → Int32) × (Nat → Int32) × (Nat → Int32) × (Nat → Int32) => (wX10_rows cI cB cZ cM cJ cK  a_t a_t_text a_t_corners a_t_streets a_t_ends a_t_time a_t_leaders a_t_home a_t_feet a_t_far a_t_now a_t_isKept a_t_tried a_t_row a_t_who a_t_then a_t_best a_t_seenAs a_t_seenAt a_t_plan t_trace t_typed t_at t_start t_sort t_value t_fault _u.2.1 _u.2.2.1 t_bestValue t_seen t_planMany t_corners t_streets t_ends t_time t_leaders t_home t_feet t_far t_now _u.2.2.2.1 _u.2.2.2.2.1 _u.2.2.2.2.2.1 _u.2.2.2.2.2.2)) D A) [.ref a_t, .int x1].toArray s 0 0 A) (F0 m 44 ls1 [])) , ∀ (t_rowLong t_homes : Int32) (t_tried t_row t_who t_then : Nat → Int32) (x2 x3 x5 x6 x7 x9 y0 : Int32) (H1 : Heap) (locs1 : List Loc) (ls1 : Array Slot), gw D A s.heap (wX10_rows cI cB cZ cM cJ cK  a_t a_t_text a_t_corners a_t_streets a_t_ends a_t_time a_t_leaders a_t_home a_t_feet a_t_far a_t_now a_t_isKept a_t_tried a_t_row a_t_who a_t_then a_t_best a_t_seenAs a_t_seenAt a_t_plan t_trace t_typed t_at t_start t_sort t_value t_fault t_rowLong t_homes t_bestValue t_seen t_planMany t_corners t_streets t_ends t_time t_leaders t_home t_feet t_far t_now t_tried t_row t_who t_then) H1 locs1 → lv_has ls1 10 [(0, .ref a_t), (1, .int x1), (2, .int x2), (3, .int x3), (5, .int x5), (6, .int x6), (7, .int x7), (9, .int x9)] → F = fX10_rows_b123 N t_corners t_streets t_ends t_time t_leaders t_home t_feet t_far t_now x1 K44 t_rowLong t_homes t_tried t_row t_who t_then x2 x3 x5 x6 x7 x9 y0 → W p l e rmX10_rows s m [.ref a_t, .int x1].toArray below meth c H1 locs1 0 0 (MQ below (gQ F (fun _u : Int32 × Int32 × Int32 × (Nat → Int32) × (Nat → Int32) × (Nat → Int32) × (Nat → Int32) => some (.int _u.1)) (fun _u : Int32 × Int32 × Int32 × (Nat → Int32) × (Nat → Int32) × (Nat → Int32) × (Nat → Int32) => (wX10_rows cI cB cZ cM cJ cK  a_t a_t_text a_t_corners a_t_streets a_t_ends a_t_time a_t_leaders a_t_home a_t_feet a_t_far a_t_now a_t_isKept a_t_tried a_t_row a_t_who a_t_then a_t_best a_t_seenAs a_t_seenAt a_t_plan t_trace t_typed t_at t_start t_sort t_value t_fault _u.2.1 _u.2.2.1 t_bestValue t_seen t_planMany t_corners t_streets t_ends t_time t_leaders t_home t_feet t_far t_now _u.2.2.2.1 _u.2.2.2.2.1 _u.2.2.2.2.2.1 _u.2.2.2.2.2.2)) D A) [.ref a_t, .int x1].toArray s 0 0 A) (F0 m 123 ls1 [.int y0]) := by
    intro K44 hK44 t_rowLong t_homes t_tried t_row t_who t_then x2 x3 x5 x6 x7 x9 y0 H locs ls Wd hl hf
    refine lv_istore (lv' := [(4, .int y0), (0, .ref a_t), (1, .int x1), (2, .int x2), (3, .int x3), (5, .int x5), (6, .int x6), (7, .int x7), (9, .int x9)]) S.1 S.2.1 dX10_rows_123 hl (by decide) rfl (fun ls hl => ?_)
    refine lv_iload S.1 S.2.1 dX10_rows_125 (lv_at hl 5 rfl) ?_
    refine lv_bipush (v := (-9)) S.1 S.2.1 dX10_rows_127 (by decide) ?_
    refine lv_icmp_eq (tgt := 139) S.1 S.2.1 dX10_rows_129 rfl (fun c14 => ?_) (fun c14 => ?_)
    · have hf := g_if hf c14
      exact b139 K44 hK44 t_rowLong t_homes t_tried t_row t_who t_then x2 x3 y0 x6 x7 x9 _ _ _ Wd (lv_sub hl [1, 2, 3, 4, 0, 6, 7, 8] rfl) hf
    · have hf := g_ifn hf c14
      refine lv_iload S.1 S.2.1 dX10_rows_132 (lv_at hl 8 rfl) ?_
      refine lv_iload S.1 S.2.1 dX10_rows_134 (lv_at hl 5 rfl) ?_
      refine lv_icmp_ge (tgt := 144) S.1 S.2.1 dX10_rows_136 rfl (fun c15 => ?_) (fun c15 => ?_)
      · have hf := g_if hf c15
        refine lv_iload S.1 S.2.1 dX10_rows_144 (lv_at hl 5 rfl) ?_
        exact b146 K44 hK44 t_rowLong t_homes t_tried t_row t_who t_then x2 x3 y0 x6 x7 x9 x5 _ _ _ Wd (lv_sub hl [1, 2, 3, 4, 0, 6, 7, 8] rfl) hf
      · have hf := g_ifn hf c15
        exact b139 K44 hK44 t_rowLong t_homes t_tried t_row t_who t_then x2 x3 y0 x6 x7 x9 _ _ _ Wd (lv_sub hl [1, 2, 3, 4, 0, 6, 7, 8] rfl) hf
  have b103 : ∀ (K44 : Int32 → Int32 → (Nat → Int32) → (Nat → Int32) → (Nat → Int32) → (Nat → Int32) → Int32 → Int32 → Int32 → Int32 → Int32 → Int32 → Int32 → Option (Int32 × Int32 × Int32 × (Nat → Int32) × (Nat → Int32) × (Nat → Int32) × (Nat → Int32))) (hK44 : ∀ (t_rowLong t_homes : Int32) (t_tried t_row t_who t_then : Nat → Int32) (x2 x3 x4 x5 x6 x7 x8 : Int32) (H1 : Heap) (locs1 : List Loc) (ls1 : Array Slot), gw D A s.heap (wX10_rows cI cB cZ cM cJ cK  a_t a_t_text a_t_corners a_t_streets a_t_ends a_t_time a_t_leaders a_t_home a_t_feet a_t_far a_t_now a_t_isKept a_t_tried a_t_row a_t_who a_t_then a_t_best a_t_seenAs a_t_seenAt a_t_plan t_trace t_typed t_at t_start t_sort t_value t_fault t_rowLong t_homes t_bestValue t_seen t_planMany t_corners t_streets t_ends t_time t_leaders t_home t_feet t_far t_now t_tried t_row t_who t_then) H1 locs1 → lv_has ls1 10 [(0, .ref a_t), (1, .int x1), (2, .int x2), (3, .int x3), (4, .int x4), (5, .int x5), (6, .int x6), (7, .int x7), (8, .int x8)] → F = K44 t_rowLong t_homes t_tried t_row t_who t_then x2 x3 x4 x5 x6 x7 x8 → W p l e rmX10_rows s m [.ref a_t, .int x1].toArray below meth c H1 locs1 0 0 (MQ below (gQ F (fun _u : Int32 × Int32 × Int32 × (Nat → Int32) × (Nat → Int32) × (Nat → Int32) × (Nat → Int32) => some (.int _u.1)) (fun _u : Int32 × Int32 × Int32 × (Nat → Int32) × (Nat → Int32) × (Nat → Int32) × (Nat → Int32) => (wX10_rows cI cB cZ cM cJ cK  a_t a_t_text a_t_corners a_t_streets a_t_ends a_t_time a_t_leaders a_t_home a_t_feet a_t_far a_t_now a_t_isKept a_t_tried a_t_row a_t_who a_t_then a_t_best a_t_seenAs a_t_seenAt a_t_plan t_trace t_typed t_at t_start t_sort t_value t_fault _u.2.1 _u.2.2.1 t_bestValue t_seen t_planMany t_corners t_streets t_ends t_time t_leaders t_home t_feet t_far t_now _u.2.2.2.1 _u.2.2.2.2.1 _u.2.2.2.2.2.1 _u.2.2.2.2.2.2)) D A) [.ref a_t, .int x1].toArray s 0 0 A) (F0 m 44 ls1 [])) , ∀ (t_rowLong t_homes : Int32) (t_tried t_row t_who t_then : Nat → Int32) (x2 x4 x5 x6 x7 x9 y0 y1 : Int32) (H1 : Heap) (locs1 : List Loc) (ls1 : Array Slot), gw D A s.heap (wX10_rows cI cB cZ cM cJ cK  a_t a_t_text a_t_corners a_t_streets a_t_ends a_t_time a_t_leaders a_t_home a_t_feet a_t_far a_t_now a_t_isKept a_t_tried a_t_row a_t_who a_t_then a_t_best a_t_seenAs a_t_seenAt a_t_plan t_trace t_typed t_at t_start t_sort t_value t_fault t_rowLong t_homes t_bestValue t_seen t_planMany t_corners t_streets t_ends t_time t_leaders t_home t_feet t_far t_now t_tried t_row t_who t_then) H1 locs1 → lv_has ls1 10 [(0, .ref a_t), (1, .int x1), (2, .int x2), (4, .int x4), (5, .int x5), (6, .int x6), (7, .int x7), (9, .int x9)] → F = fX10_rows_b103 N t_corners t_streets t_ends t_time t_leaders t_home t_feet t_far t_now x1 K44 t_rowLong t_homes t_tried t_row t_who t_then x2 x4 x5 x6 x7 x9 y0 y1 → W p l e rmX10_rows s m [.ref a_t, .int x1].toArray below meth c H1 locs1 0 0 (MQ below (gQ F (fun _u : Int32 × Int32 × Int32 × (Nat → Int32) × (Nat → Int32) × (Nat → Int32) × (Nat → Int32) => some (.int _u.1)) (fun _u : Int32 × Int32 × Int32 × (Nat → Int32) × (Nat → Int32) × (Nat → Int32) × (Nat → Int32) => (wX10_rows cI cB cZ cM cJ cK  a_t a_t_text a_t_corners a_t_streets a_t_ends a_t_time a_t_leaders a_t_home a_t_feet a_t_far a_t_now a_t_isKept a_t_tried a_t_row a_t_who a_t_then a_t_best a_t_seenAs a_t_seenAt a_t_plan t_trace t_typed t_at t_start t_sort t_value t_fault _u.2.1 _u.2.2.1 t_bestValue t_seen t_planMany t_corners t_streets t_ends t_time t_leaders t_home t_feet t_far t_now _u.2.2.2.1 _u.2.2.2.2.1 _u.2.2.2.2.2.1 _u.2.2.2.2.2.2)) D A) [.ref a_t, .int x1].toArray s 0 0 A) (F0 m 103 ls1 [.int y0, .int y1]) := by
    intro K44 hK44 t_rowLong t_homes t_tried t_row t_who t_then x2 x4 x5 x6 x7 x9 y0 y1 H locs ls Wd hl hf
    refine lv_ior S.1 S.2.1 dX10_rows_103 ?_
    refine lv_istore_n (lv' := [(3, .int (y1 ||| y0)), (0, .ref a_t), (1, .int x1), (2, .int x2), (4, .int x4), (5, .int x5), (6, .int x6), (7, .int x7), (9, .int x9)]) S.1 S.2.1 dX10_rows_104 rfl hl (by decide) rfl (fun ls hl => ?_)
    refine lv_aload_n S.1 S.2.1 dX10_rows_105 rfl (lv_at hl 1 rfl) ?_
    refine g_get (a := a_t) S hK Wd iX10_rows_X10 0 rfl rfl 23 rfl rfl kX10_rows_5 rfl dX10_rows_106 ?_
    refine lv_iload S.1 S.2.1 dX10_rows_109 (lv_at hl 4 rfl) ?_
    refine lv_icmp_le (tgt := 121) S.1 S.2.1 dX10_rows_111 rfl (fun c13 => ?_) (fun c13 => ?_)
    · have hf := g_if hf c13
      refine lv_iload S.1 S.2.1 dX10_rows_121 (lv_at hl 4 rfl) ?_
      exact b123 K44 hK44 t_rowLong t_homes t_tried t_row t_who t_then x2 (y1 ||| y0) x5 x6 x7 x9 x4 _ _ _ Wd (lv_sub hl [1, 2, 3, 0, 5, 6, 7, 8] rfl) hf
    · have hf := g_ifn hf c13
      refine lv_aload_n S.1 S.2.1 dX10_rows_114 rfl (lv_at hl 1 rfl) ?_
      refine g_get (a := a_t) S hK Wd iX10_rows_X10 0 rfl rfl 23 rfl rfl kX10_rows_5 rfl dX10_rows_115 ?_
      refine lv_goto (tgt := 123) S.1 S.2.1 dX10_rows_118 rfl ?_
      exact b123 K44 hK44 t_rowLong t_homes t_tried t_row t_who t_then x2 (y1 ||| y0) x5 x6 x7 x9 t_homes _ _ _ Wd (lv_sub hl [1, 2, 3, 0, 5, 6, 7, 8] rfl) hf
  have b44 : ∀ (n : Nat), ∀ (t_rowLong t_homes : Int32) (t_tried t_row t_who t_then : Nat → Int32) (x2 x3 x4 x5 x6 x7 x8 : Int32) (H1 : Heap) (locs1 : List Loc) (ls1 : Array Slot), gw D A s.heap (wX10_rows cI cB cZ cM cJ cK  a_t a_t_text a_t_corners a_t_streets a_t_ends a_t_time a_t_leaders a_t_home a_t_feet a_t_far a_t_now a_t_isKept a_t_tried a_t_row a_t_who a_t_then a_t_best a_t_seenAs a_t_seenAt a_t_plan t_trace t_typed t_at t_start t_sort t_value t_fault t_rowLong t_homes t_bestValue t_seen t_planMany t_corners t_streets t_ends t_time t_leaders t_home t_feet t_far t_now t_tried t_row t_who t_then) H1 locs1 → lv_has ls1 10 [(0, .ref a_t), (1, .int x1), (2, .int x2), (3, .int x3), (4, .int x4), (5, .int x5), (6, .int x6), (7, .int x7), (8, .int x8)] → F = fX10_rows_b44 N t_corners t_streets t_ends t_time t_leaders t_home t_feet t_far t_now x1  n t_rowLong t_homes t_tried t_row t_who t_then x2 x3 x4 x5 x6 x7 x8 → W p l e rmX10_rows s m [.ref a_t, .int x1].toArray below meth c H1 locs1 0 0 (MQ below (gQ F (fun _u : Int32 × Int32 × Int32 × (Nat → Int32) × (Nat → Int32) × (Nat → Int32) × (Nat → Int32) => some (.int _u.1)) (fun _u : Int32 × Int32 × Int32 × (Nat → Int32) × (Nat → Int32) × (Nat → Int32) × (Nat → Int32) => (wX10_rows cI cB cZ cM cJ cK  a_t a_t_text a_t_corners a_t_streets a_t_ends a_t_time a_t_leaders a_t_home a_t_feet a_t_far a_t_now a_t_isKept a_t_tried a_t_row a_t_who a_t_then a_t_best a_t_seenAs a_t_seenAt a_t_plan t_trace t_typed t_at t_start t_sort t_value t_fault _u.2.1 _u.2.2.1 t_bestValue t_seen t_planMany t_corners t_streets t_ends t_time t_leaders t_home t_feet t_far t_now _u.2.2.2.1 _u.2.2.2.2.1 _u.2.2.2.2.2.1 _u.2.2.2.2.2.2)) D A) [.ref a_t, .int x1].toArray s 0 0 A) (F0 m 44 ls1 []) := by
    intro  n
    induction n with
    | zero => intro t_rowLong t_homes t_tried t_row t_who t_then x2 x3 x4 x5 x6 x7 x8 H locs ls Wd hl hf; exact absurd hf hF
    | succ n ih =>
      intro t_rowLong t_homes t_tried t_row t_who t_then x2 x3 x4 x5 x6 x7 x8 H locs ls Wd hl hf
      refine lv_iload S.1 S.2.1 dX10_rows_44 (lv_at hl 8 rfl) ?_
      refine lv_if_eq (tgt := 209) S.1 S.2.1 dX10_rows_46 rfl (fun c4 => ?_) (fun c4 => ?_)
      · have hf := g_if hf c4
        refine lv_iload_n S.1 S.2.1 dX10_rows_209 rfl (lv_at hl 1 rfl) ?_
        by_cases c5 : x1 = (0 : Int32)
        · have hf := g_if hf c5
          refine g_tabIn (tgt := 244) (off := 34) S c5 dX10_rows_210 (by decide) (by decide) (by decide) rfl ?_
          refine lv_iload_n S.1 S.2.1 dX10_rows_244 rfl (lv_at hl 2 rfl) ?_
          exact g_iret S Wd hr hlk dX10_rows_245 (x2, t_rowLong, t_homes, t_tried, t_row, t_who, t_then) hf rfl rfl
        have hf := g_ifn hf c5
        by_cases c6 : x1 = (1 : Int32)
        · have hf := g_if hf c6
          refine g_tabIn (tgt := 246) (off := 36) S c6 dX10_rows_210 (by decide) (by decide) (by decide) rfl ?_
          refine lv_iload_n S.1 S.2.1 dX10_rows_246 rfl (lv_at hl 3 rfl) ?_
          exact g_iret S Wd hr hlk dX10_rows_247 (x3, t_rowLong, t_homes, t_tried, t_row, t_who, t_then) hf rfl rfl
        have hf := g_ifn hf c6
        by_cases c7 : x1 = (2 : Int32)
        · have hf := g_if hf c7
          refine g_tabIn (tgt := 248) (off := 38) S c7 dX10_rows_210 (by decide) (by decide) (by decide) rfl ?_
          refine lv_iload S.1 S.2.1 dX10_rows_248 (lv_at hl 4 rfl) ?_
          exact g_iret S Wd hr hlk dX10_rows_250 (x4, t_rowLong, t_homes, t_tried, t_row, t_who, t_then) hf rfl rfl
        have hf := g_ifn hf c7
        by_cases c8 : x1 = (3 : Int32)
        · have hf := g_if hf c8
          refine g_tabIn (tgt := 251) (off := 41) S c8 dX10_rows_210 (by decide) (by decide) (by decide) rfl ?_
          refine lv_iload S.1 S.2.1 dX10_rows_251 (lv_at hl 5 rfl) ?_
          exact g_iret S Wd hr hlk dX10_rows_253 (x5, t_rowLong, t_homes, t_tried, t_row, t_who, t_then) hf rfl rfl
        have hf := g_ifn hf c8
        by_cases c9 : x1 = (4 : Int32)
        · have hf := g_if hf c9
          refine g_tabIn (tgt := 254) (off := 44) S c9 dX10_rows_210 (by decide) (by decide) (by decide) rfl ?_
          refine lv_iload S.1 S.2.1 dX10_rows_254 (lv_at hl 6 rfl) ?_
          exact g_iret S Wd hr hlk dX10_rows_256 (x6, t_rowLong, t_homes, t_tried, t_row, t_who, t_then) hf rfl rfl
        have hf := g_ifn hf c9
        refine lv_tableOut (tgt := 257) S.1 S.2.1 dX10_rows_210 ?_ rfl ?_
        · have q0 : (x1).toInt < 0 ∨ 4 < (x1).toInt := by
            have z0 : (x1).toInt ≠ 0 := fun e => g_ne c5 (e.trans (by decide))
            have z1 : (x1).toInt ≠ 1 := fun e => g_ne c6 (e.trans (by decide))
            have z2 : (x1).toInt ≠ 2 := fun e => g_ne c7 (e.trans (by decide))
            have z3 : (x1).toInt ≠ 3 := fun e => g_ne c8 (e.trans (by decide))
            have z4 : (x1).toInt ≠ 4 := fun e => g_ne c9 (e.trans (by decide))
            omega
          exact q0
        refine lv_iload S.1 S.2.1 dX10_rows_257 (lv_at hl 7 rfl) ?_
        exact g_iret S Wd hr hlk dX10_rows_259 (x7, t_rowLong, t_homes, t_tried, t_row, t_who, t_then) hf rfl rfl
      · have hf := g_ifn hf c4
        refine lv_aload_n S.1 S.2.1 dX10_rows_49 rfl (lv_at hl 0 rfl) ?_
        obtain ⟨u10, hu10, hf⟩ := g_bind hF hf
        refine g_callV (ws' := (wX10_rows cI cB cZ cM cJ cK  a_t a_t_text a_t_corners a_t_streets a_t_ends a_t_time a_t_leaders a_t_home a_t_feet a_t_far a_t_now a_t_isKept a_t_tried a_t_row a_t_who a_t_then a_t_best a_t_seenAs a_t_seenAt a_t_plan t_trace t_typed t_at t_start t_sort t_value t_fault t_rowLong u10.1 t_bestValue t_seen t_planMany t_corners t_streets t_ends t_time t_leaders t_home t_feet t_far t_now u10.2.1 t_row u10.2.2.1 u10.2.2.2)) (As := []) (rest := []) (st1 := []) S hK hA Wd (c_X10_run l D N cI cB cZ cM cJ cK a_t a_t_text a_t_corners a_t_streets a_t_ends a_t_time a_t_leaders a_t_home a_t_feet a_t_far a_t_now a_t_isKept a_t_tried a_t_row a_t_who a_t_then a_t_best a_t_seenAs a_t_seenAt a_t_plan t_trace t_typed t_at t_start t_sort t_value t_fault t_rowLong t_homes t_bestValue t_seen t_planMany t_streets t_ends t_time t_home t_feet t_far t_now t_tried t_row t_who t_then) (cwV 0 S.2.2.2.2 gX10_rows_X10_run rfl rfl rfl n_X10_run ⟨Nat.le_of_ble_eq_true rfl, Nat.le_of_ble_eq_true rfl⟩) hu10 [0, 2, 3, 4, 6, 7, 8, 9, 10, 11, 12, 13] rfl rfl 0 10 rfl rfl rfl rfl rfl rfl rfl hl.1 rfl (Nat.le_of_ble_eq_true rfl) dX10_rows_50 ⟨Nat.zero_le _, Nat.zero_le _⟩ (fun H locs Wd => ?_)
        refine lv_aload_n S.1 S.2.1 dX10_rows_53 rfl (lv_at hl 0 rfl) ?_
        refine g_get (a := a_t) S hK Wd iX10_rows_X10 0 rfl rfl 18 rfl rfl kX10_rows_2 rfl dX10_rows_54 ?_
        refine lv_iconst (v := 1) S.1 S.2.1 dX10_rows_57 (by decide) ?_
        refine g_iald (a := a_t_tried) S hK Wd 10 0 rfl rfl (show ¬ (((1 : Int32) < 0) ∨ 17 ≤ Int32.toNatClampNeg (1 : Int32)) from by decide) dX10_rows_58 ?_
        refine lv_aload_n S.1 S.2.1 dX10_rows_59 rfl (lv_at hl 0 rfl) ?_
        refine g_get (a := a_t) S hK Wd iX10_rows_X10 0 rfl rfl 16 rfl rfl kX10_rows_3 rfl dX10_rows_60 ?_
        refine lv_iconst (v := 1) S.1 S.2.1 dX10_rows_63 (by decide) ?_
        refine g_iald (a := a_t_now) S hK Wd 9 0 rfl rfl (show ¬ (((1 : Int32) < 0) ∨ 564 ≤ Int32.toNatClampNeg (1 : Int32)) from by decide) dX10_rows_64 ?_
        refine lv_isub S.1 S.2.1 dX10_rows_65 ?_
        refine lv_istore (lv' := [(9, .int ((u10.2.1 (1 : Int32).toNatClampNeg) - (t_now (1 : Int32).toNatClampNeg))), (0, .ref a_t), (1, .int x1), (2, .int x2), (3, .int x3), (4, .int x4), (5, .int x5), (6, .int x6), (7, .int x7), (8, .int x8)]) S.1 S.2.1 dX10_rows_66 hl (by decide) rfl (fun ls hl => ?_)
        refine lv_iload_n S.1 S.2.1 dX10_rows_68 rfl (lv_at hl 3 rfl) ?_
        refine lv_aload_n S.1 S.2.1 dX10_rows_69 rfl (lv_at hl 1 rfl) ?_
        refine lv_aload_n S.1 S.2.1 dX10_rows_70 rfl (lv_at hl 1 rfl) ?_
        refine g_get (a := a_t) S hK Wd iX10_rows_X10 0 rfl rfl 18 rfl rfl kX10_rows_2 rfl dX10_rows_71 ?_
        obtain ⟨u11, hu11, hf⟩ := g_bind hF hf
        refine g_callV (ws' := (wX10_rows cI cB cZ cM cJ cK  a_t a_t_text a_t_corners a_t_streets a_t_ends a_t_time a_t_leaders a_t_home a_t_feet a_t_far a_t_now a_t_isKept a_t_tried a_t_row a_t_who a_t_then a_t_best a_t_seenAs a_t_seenAt a_t_plan t_trace t_typed t_at t_start t_sort t_value t_fault t_rowLong u10.1 t_bestValue t_seen t_planMany t_corners t_streets t_ends t_time t_leaders t_home t_feet t_far t_now u10.2.1 t_row u10.2.2.1 u10.2.2.2)) (As := [.ref a_t_tried]) (rest := [.int x2]) (st1 := [.int u11, .int x2]) S hK hA Wd (c_X10_walked l D N cI cB cZ cM cJ cK 17 a_t a_t_text a_t_corners a_t_streets a_t_ends a_t_time a_t_leaders a_t_home a_t_feet a_t_far a_t_now a_t_isKept a_t_tried a_t_row a_t_who a_t_then a_t_best a_t_seenAs a_t_seenAt a_t_plan a_t_tried t_trace t_typed t_at t_start t_sort t_value t_fault t_rowLong u10.1 t_bestValue t_seen t_planMany t_streets u10.2.1) (cwV 1 S.2.2.2.2 gX10_rows_X10_walked rfl rfl rfl n_X10_walked ⟨Nat.le_of_ble_eq_true rfl, Nat.le_of_ble_eq_true rfl⟩) hu11 [0, 2, 10] rfl rfl 0 10 rfl rfl rfl rfl rfl rfl rfl hl.1 rfl (Nat.le_of_ble_eq_true rfl) dX10_rows_74 ⟨Nat.zero_le _, Nat.zero_le _⟩ (fun H locs Wd => ?_)
        refine lv_iconst (v := (-1)) S.1 S.2.1 dX10_rows_77 (by decide) ?_
        refine lv_ixor S.1 S.2.1 dX10_rows_78 ?_
        refine lv_iand S.1 S.2.1 dX10_rows_79 ?_
        refine lv_istore_n (lv' := [(2, .int (x2 &&& (u11 ^^^ (-1 : Int32)))), (9, .int ((u10.2.1 (1 : Int32).toNatClampNeg) - (t_now (1 : Int32).toNatClampNeg))), (0, .ref a_t), (1, .int x1), (3, .int x3), (4, .int x4), (5, .int x5), (6, .int x6), (7, .int x7), (8, .int x8)]) S.1 S.2.1 dX10_rows_80 rfl hl (by decide) rfl (fun ls hl => ?_)
        refine lv_iload_n S.1 S.2.1 dX10_rows_81 rfl (lv_at hl 4 rfl) ?_
        refine lv_aload_n S.1 S.2.1 dX10_rows_82 rfl (lv_at hl 2 rfl) ?_
        refine g_get (a := a_t) S hK Wd iX10_rows_X10 0 rfl rfl 3 rfl rfl kX10_rows_4 rfl dX10_rows_83 ?_
        refine lv_iconst (v := 0) S.1 S.2.1 dX10_rows_86 (by decide) ?_
        refine g_iald (a := a_t_corners) S hK Wd 1 0 rfl rfl (show ¬ (((0 : Int32) < 0) ∨ 2 ≤ Int32.toNatClampNeg (0 : Int32)) from by decide) dX10_rows_87 ?_
        refine lv_if_ne (tgt := 95) S.1 S.2.1 dX10_rows_88 rfl (fun c12 => ?_) (fun c12 => ?_)
        · have hf := g_ifn hf c12
          refine lv_iconst (v := 1) S.1 S.2.1 dX10_rows_95 (by decide) ?_
          refine lv_aload_n S.1 S.2.1 dX10_rows_96 rfl (lv_at hl 2 rfl) ?_
          refine g_get (a := a_t) S hK Wd iX10_rows_X10 0 rfl rfl 18 rfl rfl kX10_rows_2 rfl dX10_rows_97 ?_
          refine lv_iconst (v := 0) S.1 S.2.1 dX10_rows_100 (by decide) ?_
          refine g_iald (a := a_t_tried) S hK Wd 10 0 rfl rfl (show ¬ (((0 : Int32) < 0) ∨ 17 ≤ Int32.toNatClampNeg (0 : Int32)) from by decide) dX10_rows_101 ?_
          refine lv_ishl S.1 S.2.1 dX10_rows_102 ?_
          exact b103 (fun t_rowLong t_homes t_tried t_row t_who t_then x2 x3 x4 x5 x6 x7 x8 => fX10_rows_b44 N t_corners t_streets t_ends t_time t_leaders t_home t_feet t_far t_now x1 n t_rowLong t_homes t_tried t_row t_who t_then x2 x3 x4 x5 x6 x7 x8) ih t_rowLong u10.1 u10.2.1 t_row u10.2.2.1 u10.2.2.2 (x2 &&& (u11 ^^^ (-1 : Int32))) x4 x5 x6 x7 ((u10.2.1 (1 : Int32).toNatClampNeg) - (t_now (1 : Int32).toNatClampNeg)) ((1 : Int32) <<< ((u10.2.1 (0 : Int32).toNatClampNeg) &&& 31)) x3 _ _ _ Wd (lv_sub hl [2, 3, 0, 5, 6, 7, 8, 1] rfl) hf
        · have hf := g_if hf c12
          refine lv_iconst (v := 0) S.1 S.2.1 dX10_rows_91 (by decide) ?_
          refine lv_goto (tgt := 103) S.1 S.2.1 dX10_rows_92 rfl ?_
          exact b103 (fun t_rowLong t_homes t_tried t_row t_who t_then x2 x3 x4 x5 x6 x7 x8 => fX10_rows_b44 N t_corners t_streets t_ends t_time t_leaders t_home t_feet t_far t_now x1 n t_rowLong t_homes t_tried t_row t_who t_then x2 x3 x4 x5 x6 x7 x8) ih t_rowLong u10.1 u10.2.1 t_row u10.2.2.1 u10.2.2.2 (x2 &&& (u11 ^^^ (-1 : Int32))) x4 x5 x6 x7 ((u10.2.1 (1 : Int32).toNatClampNeg) - (t_now (1 : Int32).toNatClampNeg)) (0 : Int32) x3 _ _ _ Wd (lv_sub hl [2, 3, 0, 5, 6, 7, 8, 1] rfl) hf
  refine lv_iload_n S.1 S.2.1 dX10_rows_0 rfl (lv_at hl 1 rfl) ?_
  refine lv_iconst (v := 0) S.1 S.2.1 dX10_rows_1 (by decide) ?_
  refine lv_iconst (v := 5) S.1 S.2.1 dX10_rows_2 (by decide) ?_
  obtain ⟨u1, hu1, hf⟩ := g_bind hF hf
  refine g_callS (ws' := (wX10_rows cI cB cZ cM cJ cK  a_t a_t_text a_t_corners a_t_streets a_t_ends a_t_time a_t_leaders a_t_home a_t_feet a_t_far a_t_now a_t_isKept a_t_tried a_t_row a_t_who a_t_then a_t_best a_t_seenAs a_t_seenAt a_t_plan t_trace t_typed t_at t_start t_sort t_value t_fault t_rowLong t_homes t_bestValue t_seen t_planMany t_corners t_streets t_ends t_time t_leaders t_home t_feet t_far t_now t_tried t_row t_who t_then)) (As := [.int x1, .int (0 : Int32), .int (5 : Int32)]) (rest := []) (st1 := [.int u1]) S hK hA Wd (c_X10_in l D N cI cB cZ cM cJ cK x1 (0 : Int32) (5 : Int32)) (va_cwS 3 S.2.2.2.2 gX10_rows_X10_in rfl rfl rfl n_X10_in ⟨Nat.le_of_ble_eq_true rfl, Nat.le_of_ble_eq_true rfl⟩) hu1 [] rfl rfl rfl rfl rfl rfl hl.1 rfl (Nat.le_of_ble_eq_true rfl) dX10_rows_3 ⟨Nat.zero_le _, Nat.zero_le _⟩ (fun H locs Wd => ?_)
  refine lv_if_ne (tgt := 11) S.1 S.2.1 dX10_rows_6 rfl (fun c2 => ?_) (fun c2 => ?_)
  · have hf := g_ifn hf c2
    refine lv_iconst (v := 1) S.1 S.2.1 dX10_rows_11 (by decide) ?_
    refine lv_aload_n S.1 S.2.1 dX10_rows_12 rfl (lv_at hl 0 rfl) ?_
    refine g_get (a := a_t) S hK Wd iX10_rows_X10 0 rfl rfl 4 rfl rfl kX10_rows_1 rfl dX10_rows_13 ?_
    refine lv_iconst (v := 0) S.1 S.2.1 dX10_rows_16 (by decide) ?_
    refine g_iald (a := a_t_streets) S hK Wd 2 0 rfl rfl (show ¬ (((0 : Int32) < 0) ∨ 2 ≤ Int32.toNatClampNeg (0 : Int32)) from by decide) dX10_rows_17 ?_
    refine lv_ishl S.1 S.2.1 dX10_rows_18 ?_
    refine lv_iconst (v := 1) S.1 S.2.1 dX10_rows_19 (by decide) ?_
    refine lv_isub S.1 S.2.1 dX10_rows_20 ?_
    refine lv_istore_n (lv' := [(2, .int (((1 : Int32) <<< ((t_streets (0 : Int32).toNatClampNeg) &&& 31)) - (1 : Int32))), (0, .ref a_t), (1, .int x1)]) S.1 S.2.1 dX10_rows_21 rfl hl (by decide) rfl (fun ls hl => ?_)
    refine lv_iconst (v := 0) S.1 S.2.1 dX10_rows_22 (by decide) ?_
    refine lv_istore_n (lv' := [(3, .int (0 : Int32)), (2, .int (((1 : Int32) <<< ((t_streets (0 : Int32).toNatClampNeg) &&& 31)) - (1 : Int32))), (0, .ref a_t), (1, .int x1)]) S.1 S.2.1 dX10_rows_23 rfl hl (by decide) rfl (fun ls hl => ?_)
    refine lv_iconst (v := 0) S.1 S.2.1 dX10_rows_24 (by decide) ?_
    refine lv_istore (lv' := [(4, .int (0 : Int32)), (3, .int (0 : Int32)), (2, .int (((1 : Int32) <<< ((t_streets (0 : Int32).toNatClampNeg) &&& 31)) - (1 : Int32))), (0, .ref a_t), (1, .int x1)]) S.1 S.2.1 dX10_rows_25 hl (by decide) rfl (fun ls hl => ?_)
    refine lv_bipush (v := (-9)) S.1 S.2.1 dX10_rows_27 (by decide) ?_
    refine lv_istore (lv' := [(5, .int (-9 : Int32)), (4, .int (0 : Int32)), (3, .int (0 : Int32)), (2, .int (((1 : Int32) <<< ((t_streets (0 : Int32).toNatClampNeg) &&& 31)) - (1 : Int32))), (0, .ref a_t), (1, .int x1)]) S.1 S.2.1 dX10_rows_29 hl (by decide) rfl (fun ls hl => ?_)
    refine lv_iconst (v := 0) S.1 S.2.1 dX10_rows_31 (by decide) ?_
    refine lv_istore (lv' := [(6, .int (0 : Int32)), (5, .int (-9 : Int32)), (4, .int (0 : Int32)), (3, .int (0 : Int32)), (2, .int (((1 : Int32) <<< ((t_streets (0 : Int32).toNatClampNeg) &&& 31)) - (1 : Int32))), (0, .ref a_t), (1, .int x1)]) S.1 S.2.1 dX10_rows_32 hl (by decide) rfl (fun ls hl => ?_)
    refine lv_iconst (v := 0) S.1 S.2.1 dX10_rows_34 (by decide) ?_
    refine lv_istore (lv' := [(7, .int (0 : Int32)), (6, .int (0 : Int32)), (5, .int (-9 : Int32)), (4, .int (0 : Int32)), (3, .int (0 : Int32)), (2, .int (((1 : Int32) <<< ((t_streets (0 : Int32).toNatClampNeg) &&& 31)) - (1 : Int32))), (0, .ref a_t), (1, .int x1)]) S.1 S.2.1 dX10_rows_35 hl (by decide) rfl (fun ls hl => ?_)
    refine lv_aload_n S.1 S.2.1 dX10_rows_37 rfl (lv_at hl 6 rfl) ?_
    obtain ⟨u3, hu3, hf⟩ := g_bind hF hf
    refine g_callV (ws' := (wX10_rows cI cB cZ cM cJ cK  a_t a_t_text a_t_corners a_t_streets a_t_ends a_t_time a_t_leaders a_t_home a_t_feet a_t_far a_t_now a_t_isKept a_t_tried a_t_row a_t_who a_t_then a_t_best a_t_seenAs a_t_seenAt a_t_plan t_trace t_typed t_at t_start t_sort t_value t_fault u3.1 t_homes t_bestValue t_seen t_planMany t_corners t_streets t_ends t_time t_leaders t_home t_feet t_far t_now t_tried u3.2 t_who t_then)) (As := []) (rest := []) (st1 := []) S hK hA Wd (c_X10_firstRow l D N cI cB cZ cM cJ cK a_t a_t_text a_t_corners a_t_streets a_t_ends a_t_time a_t_leaders a_t_home a_t_feet a_t_far a_t_now a_t_isKept a_t_tried a_t_row a_t_who a_t_then a_t_best a_t_seenAs a_t_seenAt a_t_plan t_trace t_typed t_at t_start t_sort t_value t_fault t_rowLong t_homes t_bestValue t_seen t_planMany t_leaders t_now t_row) (cwV 0 S.2.2.2.2 gX10_rows_X10_firstRow rfl rfl rfl n_X10_firstRow ⟨Nat.le_of_ble_eq_true rfl, Nat.le_of_ble_eq_true rfl⟩) hu3 [0, 5, 9, 11] rfl rfl 0 10 rfl rfl rfl rfl rfl rfl rfl hl.1 rfl (Nat.le_of_ble_eq_true rfl) dX10_rows_38 ⟨Nat.zero_le _, Nat.zero_le _⟩ (fun H locs Wd => ?_)
    refine lv_iconst (v := 1) S.1 S.2.1 dX10_rows_41 (by decide) ?_
    refine lv_istore (lv' := [(8, .int (1 : Int32)), (7, .int (0 : Int32)), (6, .int (0 : Int32)), (5, .int (-9 : Int32)), (4, .int (0 : Int32)), (3, .int (0 : Int32)), (2, .int (((1 : Int32) <<< ((t_streets (0 : Int32).toNatClampNeg) &&& 31)) - (1 : Int32))), (0, .ref a_t), (1, .int x1)]) S.1 S.2.1 dX10_rows_42 hl (by decide) rfl (fun ls hl => ?_)
    exact b44  N u3.1 t_homes t_tried u3.2 t_who t_then (((1 : Int32) <<< ((t_streets (0 : Int32).toNatClampNeg) &&& 31)) - (1 : Int32)) (0 : Int32) (0 : Int32) (-9 : Int32) (0 : Int32) (0 : Int32) (1 : Int32) _ _ _ Wd (lv_sub hl [7, 8, 6, 5, 4, 3, 2, 1, 0] rfl) hf
  · have hf := g_if hf c2
    refine lv_iconst (v := (-1)) S.1 S.2.1 dX10_rows_9 (by decide) ?_
    exact g_iret S Wd hr hlk dX10_rows_10 ((-1 : Int32), t_rowLong, t_homes, t_tried, t_row, t_who, t_then) hf rfl rfl
def wX10_saw (cI cB cZ cM cJ cK : ClassId) (a_t a_t_text a_t_corners a_t_streets a_t_ends a_t_time a_t_leaders a_t_home a_t_feet a_t_far a_t_now a_t_isKept a_t_tried a_t_row a_t_who a_t_then a_t_best a_t_seenAs a_t_seenAt a_t_plan : Nat) (t_trace : Int64) (t_typed t_at t_start t_sort t_value t_fault t_rowLong t_homes t_bestValue t_seen t_planMany : Int32) (t_corners t_seenAs t_seenAt : Nat → Int32) : List va_W := [[(a_t, .inr (10, [.long t_trace, .ref a_t_text, .int t_typed, .ref a_t_corners, .ref a_t_streets, .ref a_t_ends, .ref a_t_time, .ref a_t_leaders, .ref a_t_home, .ref a_t_feet, .int t_at, .int t_start, .int t_sort, .int t_value, .int t_fault, .ref a_t_far, .ref a_t_now, .ref a_t_isKept, .ref a_t_tried, .ref a_t_row, .int t_rowLong, .ref a_t_who, .ref a_t_then, .int t_homes, .ref a_t_best, .int t_bestValue, .ref a_t_seenAs, .ref a_t_seenAt, .int t_seen, .ref a_t_plan, .int t_planMany]))], [(a_t_corners, .inl (cI, 2, .inl t_corners))], [(a_t_seenAs, .inl (cI, 6, .inl t_seenAs))], [(a_t_seenAt, .inl (cI, 6, .inl t_seenAt))]]
def rmX10_saw : Room := { frames := 2, cells := 0, slots := 0, locals := 43 }
theorem kX10_saw_1 : Cond.fieldLink RX10 116 "FeastMarchModel" "seen" "I" ∈ wsX10_saw := List.mem_of_getElem? (i := 1) rfl
theorem kX10_saw_2 : Cond.fieldLink RX10 60 "FeastMarchModel" "seenAs" "[I" ∈ wsX10_saw := List.mem_of_getElem? (i := 2) rfl
theorem kX10_saw_3 : Cond.fieldLink RX10 63 "FeastMarchModel" "seenAt" "[I" ∈ wsX10_saw := List.mem_of_getElem? (i := 3) rfl
theorem iX10_saw_X10 : ∀ w ∈ wsX100, w ∈ wsX10_saw := fun _ h => List.mem_cons_of_mem _ (List.mem_append_right _ h)
theorem n_X10_saw : yX10_saw.cls = RX10 ∧ yX10_saw.cls ≠ "java/lang/invoke/MethodHandle" ∧ yX10_saw.cls ≠ "java/lang/invoke/VarHandle" ∧ (parseMethodDescriptor yX10_saw.desc).map (fun d => d.parameters.length) = some 2 := by decide +kernel
set_option maxHeartbeats 4000000 in
set_option maxRecDepth 100000 in
theorem c_X10_saw (l : Launch) (D : va_G) (N : Nat) (cI cB cZ cM cJ cK : ClassId) (a_t a_t_text a_t_corners a_t_streets a_t_ends a_t_time a_t_leaders a_t_home a_t_feet a_t_far a_t_now a_t_isKept a_t_tried a_t_row a_t_who a_t_then a_t_best a_t_seenAs a_t_seenAt a_t_plan : Nat) (t_trace : Int64) (t_typed t_at t_start t_sort t_value t_fault t_rowLong t_homes t_bestValue t_seen t_planMany : Int32) (t_corners t_seenAs t_seenAt : Nat → Int32) (x1 x2 : Int32) : gM l yX10_saw wsX10_saw rmX10_saw D (gT cI cB cZ cM cJ cK) (wX10_saw cI cB cZ cM cJ cK  a_t a_t_text a_t_corners a_t_streets a_t_ends a_t_time a_t_leaders a_t_home a_t_feet a_t_far a_t_now a_t_isKept a_t_tried a_t_row a_t_who a_t_then a_t_best a_t_seenAs a_t_seenAt a_t_plan t_trace t_typed t_at t_start t_sort t_value t_fault t_rowLong t_homes t_bestValue t_seen t_planMany t_corners t_seenAs t_seenAt) [.ref a_t, .int x1, .int x2] (fX10_saw N t_seen t_corners t_seenAs t_seenAt x1 x2) (fun _u : Int32 × Int32 × (Nat → Int32) × (Nat → Int32) => some (.int _u.1)) (fun _u : Int32 × Int32 × (Nat → Int32) × (Nat → Int32) => (wX10_saw cI cB cZ cM cJ cK  a_t a_t_text a_t_corners a_t_streets a_t_ends a_t_time a_t_leaders a_t_home a_t_feet a_t_far a_t_now a_t_isKept a_t_tried a_t_row a_t_who a_t_then a_t_best a_t_seenAs a_t_seenAt a_t_plan t_trace t_typed t_at t_start t_sort t_value t_fault t_rowLong t_homes t_bestValue _u.2.1 t_planMany t_corners _u.2.2.1 _u.2.2.2)) := by
  refine g_start (cc := cX10_saw) (maxL := 3) (ret := (some .int)) (by decide) rfl (Nat.le_of_ble_eq_true rfl) ?_
  intro F hf hF p e s m below meth c A ls S hK hA Wd hr hlk hnm hl
  refine lv_iload_n S.1 S.2.1 dX10_saw_0 rfl (lv_at hl 1 rfl) ?_
  refine lv_iconst (v := 0) S.1 S.2.1 dX10_saw_1 (by decide) ?_
  refine lv_iconst (v := 5) S.1 S.2.1 dX10_saw_2 (by decide) ?_
  obtain ⟨u1, hu1, hf⟩ := g_bind hF hf
  refine g_callS (ws' := (wX10_saw cI cB cZ cM cJ cK  a_t a_t_text a_t_corners a_t_streets a_t_ends a_t_time a_t_leaders a_t_home a_t_feet a_t_far a_t_now a_t_isKept a_t_tried a_t_row a_t_who a_t_then a_t_best a_t_seenAs a_t_seenAt a_t_plan t_trace t_typed t_at t_start t_sort t_value t_fault t_rowLong t_homes t_bestValue t_seen t_planMany t_corners t_seenAs t_seenAt)) (As := [.int x1, .int (0 : Int32), .int (5 : Int32)]) (rest := []) (st1 := [.int u1]) S hK hA Wd (c_X10_in l D N cI cB cZ cM cJ cK x1 (0 : Int32) (5 : Int32)) (va_cwS 3 S.2.2.2.2 gX10_saw_X10_in rfl rfl rfl n_X10_in ⟨Nat.le_of_ble_eq_true rfl, Nat.le_of_ble_eq_true rfl⟩) hu1 [] rfl rfl rfl rfl rfl rfl hl.1 rfl (Nat.le_of_ble_eq_true rfl) dX10_saw_3 ⟨Nat.zero_le _, Nat.zero_le _⟩ (fun H locs Wd => ?_)
  refine lv_if_eq (tgt := 17) S.1 S.2.1 dX10_saw_6 rfl (fun c2 => ?_) (fun c2 => ?_)
  · have hf := g_if hf c2
    refine lv_iconst (v := (-1)) S.1 S.2.1 dX10_saw_17 (by decide) ?_
    exact g_iret S Wd hr hlk dX10_saw_18 ((-1 : Int32), t_seen, t_seenAs, t_seenAt) hf rfl rfl
  · have hf := g_ifn hf c2
    refine lv_aload_n S.1 S.2.1 dX10_saw_9 rfl (lv_at hl 0 rfl) ?_
    refine lv_iload_n S.1 S.2.1 dX10_saw_10 rfl (lv_at hl 2 rfl) ?_
    obtain ⟨u3, hu3, hf⟩ := g_bind hF hf
    refine g_callV (ws' := (wX10_saw cI cB cZ cM cJ cK  a_t a_t_text a_t_corners a_t_streets a_t_ends a_t_time a_t_leaders a_t_home a_t_feet a_t_far a_t_now a_t_isKept a_t_tried a_t_row a_t_who a_t_then a_t_best a_t_seenAs a_t_seenAt a_t_plan t_trace t_typed t_at t_start t_sort t_value t_fault t_rowLong t_homes t_bestValue t_seen t_planMany t_corners t_seenAs t_seenAt)) (As := [.int x2]) (rest := []) (st1 := [.int u3]) S hK hA Wd (c_X10_isCorner l D N cI cB cZ cM cJ cK a_t a_t_text a_t_corners a_t_streets a_t_ends a_t_time a_t_leaders a_t_home a_t_feet a_t_far a_t_now a_t_isKept a_t_tried a_t_row a_t_who a_t_then a_t_best a_t_seenAs a_t_seenAt a_t_plan t_trace t_typed t_at t_start t_sort t_value t_fault t_rowLong t_homes t_bestValue t_seen t_planMany t_corners x2) (cwV 1 S.2.2.2.2 gX10_saw_X10_isCorner rfl rfl rfl n_X10_isCorner ⟨Nat.le_of_ble_eq_true rfl, Nat.le_of_ble_eq_true rfl⟩) hu3 [0, 1] rfl rfl 0 10 rfl rfl rfl rfl rfl rfl rfl hl.1 rfl (Nat.le_of_ble_eq_true rfl) dX10_saw_11 ⟨Nat.zero_le _, Nat.zero_le _⟩ (fun H locs Wd => ?_)
    refine lv_if_ne (tgt := 19) S.1 S.2.1 dX10_saw_14 rfl (fun c4 => ?_) (fun c4 => ?_)
    · have hf := g_ifn hf c4
      refine lv_aload_n S.1 S.2.1 dX10_saw_19 rfl (lv_at hl 0 rfl) ?_
      refine g_get (a := a_t) S hK Wd iX10_saw_X10 0 rfl rfl 28 rfl rfl kX10_saw_1 rfl dX10_saw_20 ?_
      refine lv_bipush (v := 6) S.1 S.2.1 dX10_saw_23 (by decide) ?_
      refine lv_icmp_ne (tgt := 31) S.1 S.2.1 dX10_saw_25 rfl (fun c5 => ?_) (fun c5 => ?_)
      · have hf := g_ifn hf c5
        refine lv_aload_n S.1 S.2.1 dX10_saw_31 rfl (lv_at hl 0 rfl) ?_
        refine g_get (a := a_t) S hK Wd iX10_saw_X10 0 rfl rfl 26 rfl rfl kX10_saw_2 rfl dX10_saw_32 ?_
        refine lv_aload_n S.1 S.2.1 dX10_saw_35 rfl (lv_at hl 0 rfl) ?_
        refine g_get (a := a_t) S hK Wd iX10_saw_X10 0 rfl rfl 28 rfl rfl kX10_saw_1 rfl dX10_saw_36 ?_
        refine lv_iload_n S.1 S.2.1 dX10_saw_39 rfl (lv_at hl 1 rfl) ?_
        obtain ⟨h6, hf⟩ := g_gi hF hf
        refine g_iast (a := a_t_seenAs) (ws' := (wX10_saw cI cB cZ cM cJ cK  a_t a_t_text a_t_corners a_t_streets a_t_ends a_t_time a_t_leaders a_t_home a_t_feet a_t_far a_t_now a_t_isKept a_t_tried a_t_row a_t_who a_t_then a_t_best a_t_seenAs a_t_seenAt a_t_plan t_trace t_typed t_at t_start t_sort t_value t_fault t_rowLong t_homes t_bestValue t_seen t_planMany t_corners (upd t_seenAs t_seen.toNatClampNeg x1) t_seenAt)) S hK Wd 2 0 rfl rfl h6 dX10_saw_40 rfl (fun H locs Wd => ?_)
        refine lv_aload_n S.1 S.2.1 dX10_saw_41 rfl (lv_at hl 0 rfl) ?_
        refine g_get (a := a_t) S hK Wd iX10_saw_X10 0 rfl rfl 27 rfl rfl kX10_saw_3 rfl dX10_saw_42 ?_
        refine lv_aload_n S.1 S.2.1 dX10_saw_45 rfl (lv_at hl 0 rfl) ?_
        refine g_get (a := a_t) S hK Wd iX10_saw_X10 0 rfl rfl 28 rfl rfl kX10_saw_1 rfl dX10_saw_46 ?_
        refine lv_iload_n S.1 S.2.1 dX10_saw_49 rfl (lv_at hl 2 rfl) ?_
        obtain ⟨h7, hf⟩ := g_gi hF hf
        refine g_iast (a := a_t_seenAt) (ws' := (wX10_saw cI cB cZ cM cJ cK  a_t a_t_text a_t_corners a_t_streets a_t_ends a_t_time a_t_leaders a_t_home a_t_feet a_t_far a_t_now a_t_isKept a_t_tried a_t_row a_t_who a_t_then a_t_best a_t_seenAs a_t_seenAt a_t_plan t_trace t_typed t_at t_start t_sort t_value t_fault t_rowLong t_homes t_bestValue t_seen t_planMany t_corners (upd t_seenAs t_seen.toNatClampNeg x1) (upd t_seenAt t_seen.toNatClampNeg x2))) S hK Wd 3 0 rfl rfl h7 dX10_saw_50 rfl (fun H locs Wd => ?_)
        refine lv_aload_n S.1 S.2.1 dX10_saw_51 rfl (lv_at hl 0 rfl) ?_
        refine lv_dup S.1 S.2.1 dX10_saw_52 rfl ?_
        refine g_get (a := a_t) S hK Wd iX10_saw_X10 0 rfl rfl 28 rfl rfl kX10_saw_1 rfl dX10_saw_53 ?_
        refine lv_iconst (v := 1) S.1 S.2.1 dX10_saw_56 (by decide) ?_
        refine lv_iadd S.1 S.2.1 dX10_saw_57 ?_
        refine g_put (a := a_t) (ws' := (wX10_saw cI cB cZ cM cJ cK  a_t a_t_text a_t_corners a_t_streets a_t_ends a_t_time a_t_leaders a_t_home a_t_feet a_t_far a_t_now a_t_isKept a_t_tried a_t_row a_t_who a_t_then a_t_best a_t_seenAs a_t_seenAt a_t_plan t_trace t_typed t_at t_start t_sort t_value t_fault t_rowLong t_homes t_bestValue (t_seen + (1 : Int32)) t_planMany t_corners (upd t_seenAs t_seen.toNatClampNeg x1) (upd t_seenAt t_seen.toNatClampNeg x2))) S hK Wd iX10_saw_X10 tyX10 tyX10_ok nmX10 0 rfl rfl 28 rfl rfl kX10_saw_1 rfl rfl rfl dX10_saw_58 rfl (fun H locs Wd => ?_)
        refine lv_aload_n S.1 S.2.1 dX10_saw_61 rfl (lv_at hl 0 rfl) ?_
        refine g_get (a := a_t) S hK Wd iX10_saw_X10 0 rfl rfl 28 rfl rfl kX10_saw_1 rfl dX10_saw_62 ?_
        exact g_iret S Wd hr hlk dX10_saw_65 ((t_seen + (1 : Int32)), (t_seen + (1 : Int32)), (upd t_seenAs t_seen.toNatClampNeg x1), (upd t_seenAt t_seen.toNatClampNeg x2)) hf rfl rfl
      · have hf := g_if hf c5
        refine lv_bipush (v := (-3)) S.1 S.2.1 dX10_saw_28 (by decide) ?_
        exact g_iret S Wd hr hlk dX10_saw_30 ((-3 : Int32), t_seen, t_seenAs, t_seenAt) hf rfl rfl
    · have hf := g_if hf c4
      refine lv_iconst (v := (-1)) S.1 S.2.1 dX10_saw_17 (by decide) ?_
      exact g_iret S Wd hr hlk dX10_saw_18 ((-1 : Int32), t_seen, t_seenAs, t_seenAt) hf rfl rfl
def wX10_forget (cI cB cZ cM cJ cK : ClassId) (a_t a_t_text a_t_corners a_t_streets a_t_ends a_t_time a_t_leaders a_t_home a_t_feet a_t_far a_t_now a_t_isKept a_t_tried a_t_row a_t_who a_t_then a_t_best a_t_seenAs a_t_seenAt a_t_plan : Nat) (t_trace : Int64) (t_typed t_at t_start t_sort t_value t_fault t_rowLong t_homes t_bestValue t_seen t_planMany : Int32) : List va_W := [[(a_t, .inr (10, [.long t_trace, .ref a_t_text, .int t_typed, .ref a_t_corners, .ref a_t_streets, .ref a_t_ends, .ref a_t_time, .ref a_t_leaders, .ref a_t_home, .ref a_t_feet, .int t_at, .int t_start, .int t_sort, .int t_value, .int t_fault, .ref a_t_far, .ref a_t_now, .ref a_t_isKept, .ref a_t_tried, .ref a_t_row, .int t_rowLong, .ref a_t_who, .ref a_t_then, .int t_homes, .ref a_t_best, .int t_bestValue, .ref a_t_seenAs, .ref a_t_seenAt, .int t_seen, .ref a_t_plan, .int t_planMany]))]]
def rmX10_forget : Room := { frames := 0, cells := 0, slots := 0, locals := 0 }
theorem kX10_forget_1 : Cond.fieldLink RX10 116 "FeastMarchModel" "seen" "I" ∈ wsX10_forget := List.mem_of_getElem? (i := 1) rfl
theorem iX10_forget_X10 : ∀ w ∈ wsX100, w ∈ wsX10_forget := fun _ h => List.mem_cons_of_mem _ (List.mem_append_right _ h)
theorem n_X10_forget : yX10_forget.cls = RX10 ∧ yX10_forget.cls ≠ "java/lang/invoke/MethodHandle" ∧ yX10_forget.cls ≠ "java/lang/invoke/VarHandle" ∧ (parseMethodDescriptor yX10_forget.desc).map (fun d => d.parameters.length) = some 0 := by decide +kernel
set_option maxHeartbeats 4000000 in
set_option maxRecDepth 100000 in
theorem c_X10_forget (l : Launch) (D : va_G) (N : Nat) (cI cB cZ cM cJ cK : ClassId) (a_t a_t_text a_t_corners a_t_streets a_t_ends a_t_time a_t_leaders a_t_home a_t_feet a_t_far a_t_now a_t_isKept a_t_tried a_t_row a_t_who a_t_then a_t_best a_t_seenAs a_t_seenAt a_t_plan : Nat) (t_trace : Int64) (t_typed t_at t_start t_sort t_value t_fault t_rowLong t_homes t_bestValue t_seen t_planMany : Int32) : gM l yX10_forget wsX10_forget rmX10_forget D (gT cI cB cZ cM cJ cK) (wX10_forget cI cB cZ cM cJ cK  a_t a_t_text a_t_corners a_t_streets a_t_ends a_t_time a_t_leaders a_t_home a_t_feet a_t_far a_t_now a_t_isKept a_t_tried a_t_row a_t_who a_t_then a_t_best a_t_seenAs a_t_seenAt a_t_plan t_trace t_typed t_at t_start t_sort t_value t_fault t_rowLong t_homes t_bestValue t_seen t_planMany) [.ref a_t] (fX10_forget N t_seen) (fun _u : Int32 × Int32 => some (.int _u.1)) (fun _u : Int32 × Int32 => (wX10_forget cI cB cZ cM cJ cK  a_t a_t_text a_t_corners a_t_streets a_t_ends a_t_time a_t_leaders a_t_home a_t_feet a_t_far a_t_now a_t_isKept a_t_tried a_t_row a_t_who a_t_then a_t_best a_t_seenAs a_t_seenAt a_t_plan t_trace t_typed t_at t_start t_sort t_value t_fault t_rowLong t_homes t_bestValue _u.2 t_planMany)) := by
  refine g_start (cc := cX10_forget) (maxL := 2) (ret := (some .int)) (by decide) rfl (Nat.le_of_ble_eq_true rfl) ?_
  intro F hf hF p e s m below meth c A ls S hK hA Wd hr hlk hnm hl
  refine lv_aload_n S.1 S.2.1 dX10_forget_0 rfl (lv_at hl 0 rfl) ?_
  refine g_get (a := a_t) S hK Wd iX10_forget_X10 0 rfl rfl 28 rfl rfl kX10_forget_1 rfl dX10_forget_1 ?_
  refine lv_istore_n (lv' := [(1, .int t_seen), (0, .ref a_t)]) S.1 S.2.1 dX10_forget_4 rfl hl (by decide) rfl (fun ls hl => ?_)
  refine lv_aload_n S.1 S.2.1 dX10_forget_5 rfl (lv_at hl 1 rfl) ?_
  refine lv_iconst (v := 0) S.1 S.2.1 dX10_forget_6 (by decide) ?_
  refine g_put (a := a_t) (ws' := (wX10_forget cI cB cZ cM cJ cK  a_t a_t_text a_t_corners a_t_streets a_t_ends a_t_time a_t_leaders a_t_home a_t_feet a_t_far a_t_now a_t_isKept a_t_tried a_t_row a_t_who a_t_then a_t_best a_t_seenAs a_t_seenAt a_t_plan t_trace t_typed t_at t_start t_sort t_value t_fault t_rowLong t_homes t_bestValue (0 : Int32) t_planMany)) S hK Wd iX10_forget_X10 tyX10 tyX10_ok nmX10 0 rfl rfl 28 rfl rfl kX10_forget_1 rfl rfl rfl dX10_forget_7 rfl (fun H locs Wd => ?_)
  refine lv_iload_n S.1 S.2.1 dX10_forget_10 rfl (lv_at hl 0 rfl) ?_
  exact g_iret S Wd hr hlk dX10_forget_11 (t_seen, (0 : Int32)) hf rfl rfl
def wX10_isSo (cI cB cZ cM cJ cK : ClassId) (a_t a_t_text a_t_corners a_t_streets a_t_ends a_t_time a_t_leaders a_t_home a_t_feet a_t_far a_t_now a_t_isKept a_t_tried a_t_row a_t_who a_t_then a_t_best a_t_seenAs a_t_seenAt a_t_plan : Nat) (t_trace : Int64) (t_typed t_at t_start t_sort t_value t_fault t_rowLong t_homes t_bestValue t_seen t_planMany : Int32) (t_then t_seenAs t_seenAt : Nat → Int32) : List va_W := [[(a_t, .inr (10, [.long t_trace, .ref a_t_text, .int t_typed, .ref a_t_corners, .ref a_t_streets, .ref a_t_ends, .ref a_t_time, .ref a_t_leaders, .ref a_t_home, .ref a_t_feet, .int t_at, .int t_start, .int t_sort, .int t_value, .int t_fault, .ref a_t_far, .ref a_t_now, .ref a_t_isKept, .ref a_t_tried, .ref a_t_row, .int t_rowLong, .ref a_t_who, .ref a_t_then, .int t_homes, .ref a_t_best, .int t_bestValue, .ref a_t_seenAs, .ref a_t_seenAt, .int t_seen, .ref a_t_plan, .int t_planMany]))], [(a_t_then, .inl (cI, 6, .inl t_then))], [(a_t_seenAs, .inl (cI, 6, .inl t_seenAs))], [(a_t_seenAt, .inl (cI, 6, .inl t_seenAt))]]
def rmX10_isSo : Room := { frames := 0, cells := 0, slots := 0, locals := 0 }
theorem kX10_isSo_1 : Cond.fieldLink RX10 116 "FeastMarchModel" "seen" "I" ∈ wsX10_isSo := List.mem_of_getElem? (i := 1) rfl
theorem kX10_isSo_2 : Cond.fieldLink RX10 60 "FeastMarchModel" "seenAs" "[I" ∈ wsX10_isSo := List.mem_of_getElem? (i := 2) rfl
theorem kX10_isSo_3 : Cond.fieldLink RX10 158 "FeastMarchModel" "rowLong" "I" ∈ wsX10_isSo := List.mem_of_getElem? (i := 3) rfl
theorem kX10_isSo_4 : Cond.fieldLink RX10 54 "FeastMarchModel" "then" "[I" ∈ wsX10_isSo := List.mem_of_getElem? (i := 4) rfl
theorem kX10_isSo_5 : Cond.fieldLink RX10 63 "FeastMarchModel" "seenAt" "[I" ∈ wsX10_isSo := List.mem_of_getElem? (i := 5) rfl
theorem iX10_isSo_X10 : ∀ w ∈ wsX100, w ∈ wsX10_isSo := fun _ h => List.mem_cons_of_mem _ (List.mem_append_right _ h)
theorem n_X10_isSo : yX10_isSo.cls = RX10 ∧ yX10_isSo.cls ≠ "java/lang/invoke/MethodHandle" ∧ yX10_isSo.cls ≠ "java/lang/invoke/VarHandle" ∧ (parseMethodDescriptor yX10_isSo.desc).map (fun d => d.parameters.length) = some 0 := by decide +kernel
set_option maxHeartbeats 4000000 in
set_option maxRecDepth 100000 in
theorem c_X10_isSo (l : Launch) (D : va_G) (N : Nat) (cI cB cZ cM cJ cK : ClassId) (a_t a_t_text a_t_corners a_t_streets a_t_ends a_t_time a_t_leaders a_t_home a_t_feet a_t_far a_t_now a_t_isKept a_t_tried a_t_row a_t_who a_t_then a_t_best a_t_seenAs a_t_seenAt a_t_plan : Nat) (t_trace : Int64) (t_typed t_at t_start t_sort t_value t_fault t_rowLong t_homes t_bestValue t_seen t_planMany : Int32) (t_then t_seenAs t_seenAt : Nat → Int32) : gM l yX10_isSo wsX10_isSo rmX10_isSo D (gT cI cB cZ cM cJ cK) (wX10_isSo cI cB cZ cM cJ cK  a_t a_t_text a_t_corners a_t_streets a_t_ends a_t_time a_t_leaders a_t_home a_t_feet a_t_far a_t_now a_t_isKept a_t_tried a_t_row a_t_who a_t_then a_t_best a_t_seenAs a_t_seenAt a_t_plan t_trace t_typed t_at t_start t_sort t_value t_fault t_rowLong t_homes t_bestValue t_seen t_planMany t_then t_seenAs t_seenAt) [.ref a_t] (fX10_isSo N t_rowLong t_seen t_then t_seenAs t_seenAt) (fun _u : Int32 => some (.int _u)) (fun _u : Int32 => (wX10_isSo cI cB cZ cM cJ cK  a_t a_t_text a_t_corners a_t_streets a_t_ends a_t_time a_t_leaders a_t_home a_t_feet a_t_far a_t_now a_t_isKept a_t_tried a_t_row a_t_who a_t_then a_t_best a_t_seenAs a_t_seenAt a_t_plan t_trace t_typed t_at t_start t_sort t_value t_fault t_rowLong t_homes t_bestValue t_seen t_planMany t_then t_seenAs t_seenAt)) := by
  refine g_start (cc := cX10_isSo) (maxL := 3) (ret := (some .boolean)) (by decide) rfl (Nat.le_of_ble_eq_true rfl) ?_
  intro F hf hF p e s m below meth c A ls S hK hA Wd hr hlk hnm hl
  have b54 : ∀ (K4 : Int32 → Int32 → Option (Int32)) (hK4 : ∀ (x1 x2 : Int32) (H1 : Heap) (locs1 : List Loc) (ls1 : Array Slot), gw D A s.heap (wX10_isSo cI cB cZ cM cJ cK  a_t a_t_text a_t_corners a_t_streets a_t_ends a_t_time a_t_leaders a_t_home a_t_feet a_t_far a_t_now a_t_isKept a_t_tried a_t_row a_t_who a_t_then a_t_best a_t_seenAs a_t_seenAt a_t_plan t_trace t_typed t_at t_start t_sort t_value t_fault t_rowLong t_homes t_bestValue t_seen t_planMany t_then t_seenAs t_seenAt) H1 locs1 → lv_has ls1 3 [(0, .ref a_t), (1, .int x1), (2, .int x2)] → F = K4 x1 x2 → W p l e rmX10_isSo s m [.ref a_t].toArray below meth c H1 locs1 0 0 (MQ below (gQ F (fun _u : Int32 => some (.int _u)) (fun _u : Int32 => (wX10_isSo cI cB cZ cM cJ cK  a_t a_t_text a_t_corners a_t_streets a_t_ends a_t_time a_t_leaders a_t_home a_t_feet a_t_far a_t_now a_t_isKept a_t_tried a_t_row a_t_who a_t_then a_t_best a_t_seenAs a_t_seenAt a_t_plan t_trace t_typed t_at t_start t_sort t_value t_fault t_rowLong t_homes t_bestValue t_seen t_planMany t_then t_seenAs t_seenAt)) D A) [.ref a_t].toArray s 0 0 A) (F0 m 4 ls1 [])) , ∀ (x2 y0 : Int32) (H1 : Heap) (locs1 : List Loc) (ls1 : Array Slot), gw D A s.heap (wX10_isSo cI cB cZ cM cJ cK  a_t a_t_text a_t_corners a_t_streets a_t_ends a_t_time a_t_leaders a_t_home a_t_feet a_t_far a_t_now a_t_isKept a_t_tried a_t_row a_t_who a_t_then a_t_best a_t_seenAs a_t_seenAt a_t_plan t_trace t_typed t_at t_start t_sort t_value t_fault t_rowLong t_homes t_bestValue t_seen t_planMany t_then t_seenAs t_seenAt) H1 locs1 → lv_has ls1 3 [(0, .ref a_t), (2, .int x2)] → F = fX10_isSo_b54 N t_rowLong t_seen t_then t_seenAs t_seenAt K4 x2 y0 → W p l e rmX10_isSo s m [.ref a_t].toArray below meth c H1 locs1 0 0 (MQ below (gQ F (fun _u : Int32 => some (.int _u)) (fun _u : Int32 => (wX10_isSo cI cB cZ cM cJ cK  a_t a_t_text a_t_corners a_t_streets a_t_ends a_t_time a_t_leaders a_t_home a_t_feet a_t_far a_t_now a_t_isKept a_t_tried a_t_row a_t_who a_t_then a_t_best a_t_seenAs a_t_seenAt a_t_plan t_trace t_typed t_at t_start t_sort t_value t_fault t_rowLong t_homes t_bestValue t_seen t_planMany t_then t_seenAs t_seenAt)) D A) [.ref a_t].toArray s 0 0 A) (F0 m 54 ls1 [.int y0]) := by
    intro K4 hK4 x2 y0 H locs ls Wd hl hf
    refine lv_istore_n (lv' := [(1, .int y0), (0, .ref a_t), (2, .int x2)]) S.1 S.2.1 dX10_isSo_54 rfl hl (by decide) rfl (fun ls hl => ?_)
    refine lv_iinc (v := (x2 + (1 : Int32))) (lv' := [(2, .int (x2 + (1 : Int32))), (1, .int y0), (0, .ref a_t)]) S.1 S.2.1 dX10_isSo_55 hl (k := 2) rfl rfl (by decide) rfl (fun ls hl => ?_)
    refine lv_goto (tgt := 4) S.1 S.2.1 dX10_isSo_58 rfl ?_
    exact hK4 y0 (x2 + (1 : Int32)) _ _ _ Wd (lv_sub hl [2, 1, 0] rfl) hf
  have b53 : ∀ (K4 : Int32 → Int32 → Option (Int32)) (hK4 : ∀ (x1 x2 : Int32) (H1 : Heap) (locs1 : List Loc) (ls1 : Array Slot), gw D A s.heap (wX10_isSo cI cB cZ cM cJ cK  a_t a_t_text a_t_corners a_t_streets a_t_ends a_t_time a_t_leaders a_t_home a_t_feet a_t_far a_t_now a_t_isKept a_t_tried a_t_row a_t_who a_t_then a_t_best a_t_seenAs a_t_seenAt a_t_plan t_trace t_typed t_at t_start t_sort t_value t_fault t_rowLong t_homes t_bestValue t_seen t_planMany t_then t_seenAs t_seenAt) H1 locs1 → lv_has ls1 3 [(0, .ref a_t), (1, .int x1), (2, .int x2)] → F = K4 x1 x2 → W p l e rmX10_isSo s m [.ref a_t].toArray below meth c H1 locs1 0 0 (MQ below (gQ F (fun _u : Int32 => some (.int _u)) (fun _u : Int32 => (wX10_isSo cI cB cZ cM cJ cK  a_t a_t_text a_t_corners a_t_streets a_t_ends a_t_time a_t_leaders a_t_home a_t_feet a_t_far a_t_now a_t_isKept a_t_tried a_t_row a_t_who a_t_then a_t_best a_t_seenAs a_t_seenAt a_t_plan t_trace t_typed t_at t_start t_sort t_value t_fault t_rowLong t_homes t_bestValue t_seen t_planMany t_then t_seenAs t_seenAt)) D A) [.ref a_t].toArray s 0 0 A) (F0 m 4 ls1 [])) , ∀ (x2 : Int32) (H1 : Heap) (locs1 : List Loc) (ls1 : Array Slot), gw D A s.heap (wX10_isSo cI cB cZ cM cJ cK  a_t a_t_text a_t_corners a_t_streets a_t_ends a_t_time a_t_leaders a_t_home a_t_feet a_t_far a_t_now a_t_isKept a_t_tried a_t_row a_t_who a_t_then a_t_best a_t_seenAs a_t_seenAt a_t_plan t_trace t_typed t_at t_start t_sort t_value t_fault t_rowLong t_homes t_bestValue t_seen t_planMany t_then t_seenAs t_seenAt) H1 locs1 → lv_has ls1 3 [(0, .ref a_t), (2, .int x2)] → F = fX10_isSo_b53 N t_rowLong t_seen t_then t_seenAs t_seenAt K4 x2 → W p l e rmX10_isSo s m [.ref a_t].toArray below meth c H1 locs1 0 0 (MQ below (gQ F (fun _u : Int32 => some (.int _u)) (fun _u : Int32 => (wX10_isSo cI cB cZ cM cJ cK  a_t a_t_text a_t_corners a_t_streets a_t_ends a_t_time a_t_leaders a_t_home a_t_feet a_t_far a_t_now a_t_isKept a_t_tried a_t_row a_t_who a_t_then a_t_best a_t_seenAs a_t_seenAt a_t_plan t_trace t_typed t_at t_start t_sort t_value t_fault t_rowLong t_homes t_bestValue t_seen t_planMany t_then t_seenAs t_seenAt)) D A) [.ref a_t].toArray s 0 0 A) (F0 m 53 ls1 []) := by
    intro K4 hK4 x2 H locs ls Wd hl hf
    refine lv_iconst (v := 0) S.1 S.2.1 dX10_isSo_53 (by decide) ?_
    exact b54 K4 hK4 x2 (0 : Int32) _ _ _ Wd hl hf
  have b4 : ∀ (n : Nat), ∀ (x1 x2 : Int32) (H1 : Heap) (locs1 : List Loc) (ls1 : Array Slot), gw D A s.heap (wX10_isSo cI cB cZ cM cJ cK  a_t a_t_text a_t_corners a_t_streets a_t_ends a_t_time a_t_leaders a_t_home a_t_feet a_t_far a_t_now a_t_isKept a_t_tried a_t_row a_t_who a_t_then a_t_best a_t_seenAs a_t_seenAt a_t_plan t_trace t_typed t_at t_start t_sort t_value t_fault t_rowLong t_homes t_bestValue t_seen t_planMany t_then t_seenAs t_seenAt) H1 locs1 → lv_has ls1 3 [(0, .ref a_t), (1, .int x1), (2, .int x2)] → F = fX10_isSo_b4 N t_rowLong t_seen t_then t_seenAs t_seenAt  n x1 x2 → W p l e rmX10_isSo s m [.ref a_t].toArray below meth c H1 locs1 0 0 (MQ below (gQ F (fun _u : Int32 => some (.int _u)) (fun _u : Int32 => (wX10_isSo cI cB cZ cM cJ cK  a_t a_t_text a_t_corners a_t_streets a_t_ends a_t_time a_t_leaders a_t_home a_t_feet a_t_far a_t_now a_t_isKept a_t_tried a_t_row a_t_who a_t_then a_t_best a_t_seenAs a_t_seenAt a_t_plan t_trace t_typed t_at t_start t_sort t_value t_fault t_rowLong t_homes t_bestValue t_seen t_planMany t_then t_seenAs t_seenAt)) D A) [.ref a_t].toArray s 0 0 A) (F0 m 4 ls1 []) := by
    intro  n
    induction n with
    | zero => intro x1 x2 H locs ls Wd hl hf; exact absurd hf hF
    | succ n ih =>
      intro x1 x2 H locs ls Wd hl hf
      refine lv_iload_n S.1 S.2.1 dX10_isSo_4 rfl (lv_at hl 2 rfl) ?_
      refine lv_aload_n S.1 S.2.1 dX10_isSo_5 rfl (lv_at hl 0 rfl) ?_
      refine g_get (a := a_t) S hK Wd iX10_isSo_X10 0 rfl rfl 28 rfl rfl kX10_isSo_1 rfl dX10_isSo_6 ?_
      refine lv_icmp_ge (tgt := 61) S.1 S.2.1 dX10_isSo_9 rfl (fun c1 => ?_) (fun c1 => ?_)
      · have hf := g_if hf c1
        refine lv_iload_n S.1 S.2.1 dX10_isSo_61 rfl (lv_at hl 1 rfl) ?_
        obtain ⟨h2, hf⟩ := g_gc hF hf
        exact g_zret S Wd hr hlk (congrArg Value.int h2) dX10_isSo_62 x1 hf rfl rfl
      · have hf := g_ifn hf c1
        refine lv_iload_n S.1 S.2.1 dX10_isSo_12 rfl (lv_at hl 1 rfl) ?_
        refine lv_if_eq (tgt := 53) S.1 S.2.1 dX10_isSo_13 rfl (fun c3 => ?_) (fun c3 => ?_)
        · have hf := g_if hf c3
          exact b53 (fun x1 x2 => fX10_isSo_b4 N t_rowLong t_seen t_then t_seenAs t_seenAt n x1 x2) ih x2 _ _ _ Wd (lv_sub hl [0, 2] rfl) hf
        · have hf := g_ifn hf c3
          refine lv_aload_n S.1 S.2.1 dX10_isSo_16 rfl (lv_at hl 0 rfl) ?_
          refine g_get (a := a_t) S hK Wd iX10_isSo_X10 0 rfl rfl 26 rfl rfl kX10_isSo_2 rfl dX10_isSo_17 ?_
          refine lv_iload_n S.1 S.2.1 dX10_isSo_20 rfl (lv_at hl 2 rfl) ?_
          obtain ⟨h4, hf⟩ := g_gi hF hf
          refine g_iald (a := a_t_seenAs) S hK Wd 2 0 rfl rfl h4 dX10_isSo_21 ?_
          refine lv_aload_n S.1 S.2.1 dX10_isSo_22 rfl (lv_at hl 0 rfl) ?_
          refine g_get (a := a_t) S hK Wd iX10_isSo_X10 0 rfl rfl 20 rfl rfl kX10_isSo_3 rfl dX10_isSo_23 ?_
          refine lv_icmp_ge (tgt := 53) S.1 S.2.1 dX10_isSo_26 rfl (fun c5 => ?_) (fun c5 => ?_)
          · have hf := g_if hf c5
            exact b53 (fun x1 x2 => fX10_isSo_b4 N t_rowLong t_seen t_then t_seenAs t_seenAt n x1 x2) ih x2 _ _ _ Wd (lv_sub hl [0, 2] rfl) hf
          · have hf := g_ifn hf c5
            refine lv_aload_n S.1 S.2.1 dX10_isSo_29 rfl (lv_at hl 0 rfl) ?_
            refine g_get (a := a_t) S hK Wd iX10_isSo_X10 0 rfl rfl 22 rfl rfl kX10_isSo_4 rfl dX10_isSo_30 ?_
            refine lv_aload_n S.1 S.2.1 dX10_isSo_33 rfl (lv_at hl 0 rfl) ?_
            refine g_get (a := a_t) S hK Wd iX10_isSo_X10 0 rfl rfl 26 rfl rfl kX10_isSo_2 rfl dX10_isSo_34 ?_
            refine lv_iload_n S.1 S.2.1 dX10_isSo_37 rfl (lv_at hl 2 rfl) ?_
            obtain ⟨h6, hf⟩ := g_gi hF hf
            refine g_iald (a := a_t_seenAs) S hK Wd 2 0 rfl rfl h6 dX10_isSo_38 ?_
            obtain ⟨h7, hf⟩ := g_gi hF hf
            refine g_iald (a := a_t_then) S hK Wd 1 0 rfl rfl h7 dX10_isSo_39 ?_
            refine lv_aload_n S.1 S.2.1 dX10_isSo_40 rfl (lv_at hl 0 rfl) ?_
            refine g_get (a := a_t) S hK Wd iX10_isSo_X10 0 rfl rfl 27 rfl rfl kX10_isSo_5 rfl dX10_isSo_41 ?_
            refine lv_iload_n S.1 S.2.1 dX10_isSo_44 rfl (lv_at hl 2 rfl) ?_
            obtain ⟨h8, hf⟩ := g_gi hF hf
            refine g_iald (a := a_t_seenAt) S hK Wd 3 0 rfl rfl h8 dX10_isSo_45 ?_
            refine lv_icmp_ne (tgt := 53) S.1 S.2.1 dX10_isSo_46 rfl (fun c9 => ?_) (fun c9 => ?_)
            · have hf := g_ifn hf c9
              exact b53 (fun x1 x2 => fX10_isSo_b4 N t_rowLong t_seen t_then t_seenAs t_seenAt n x1 x2) ih x2 _ _ _ Wd (lv_sub hl [0, 2] rfl) hf
            · have hf := g_if hf c9
              refine lv_iconst (v := 1) S.1 S.2.1 dX10_isSo_49 (by decide) ?_
              refine lv_goto (tgt := 54) S.1 S.2.1 dX10_isSo_50 rfl ?_
              exact b54 (fun x1 x2 => fX10_isSo_b4 N t_rowLong t_seen t_then t_seenAs t_seenAt n x1 x2) ih x2 (1 : Int32) _ _ _ Wd (lv_sub hl [0, 2] rfl) hf
  refine lv_iconst (v := 1) S.1 S.2.1 dX10_isSo_0 (by decide) ?_
  refine lv_istore_n (lv' := [(1, .int (1 : Int32)), (0, .ref a_t)]) S.1 S.2.1 dX10_isSo_1 rfl hl (by decide) rfl (fun ls hl => ?_)
  refine lv_iconst (v := 0) S.1 S.2.1 dX10_isSo_2 (by decide) ?_
  refine lv_istore_n (lv' := [(2, .int (0 : Int32)), (1, .int (1 : Int32)), (0, .ref a_t)]) S.1 S.2.1 dX10_isSo_3 rfl hl (by decide) rfl (fun ls hl => ?_)
  exact b4  N (1 : Int32) (0 : Int32) _ _ _ Wd (lv_sub hl [2, 1, 0] rfl) hf
def wX10_fits (cI cB cZ cM cJ cK : ClassId) (a_t a_t_text a_t_corners a_t_streets a_t_ends a_t_time a_t_leaders a_t_home a_t_feet a_t_far a_t_now a_t_isKept a_t_tried a_t_row a_t_who a_t_then a_t_best a_t_seenAs a_t_seenAt a_t_plan : Nat) (t_trace : Int64) (t_typed t_at t_start t_sort t_value t_fault t_rowLong t_homes t_bestValue t_seen t_planMany : Int32) (t_streets t_ends t_time t_leaders t_home t_feet t_far t_now t_tried t_row t_who t_then t_seenAs t_seenAt : Nat → Int32) : List va_W := [[(a_t, .inr (10, [.long t_trace, .ref a_t_text, .int t_typed, .ref a_t_corners, .ref a_t_streets, .ref a_t_ends, .ref a_t_time, .ref a_t_leaders, .ref a_t_home, .ref a_t_feet, .int t_at, .int t_start, .int t_sort, .int t_value, .int t_fault, .ref a_t_far, .ref a_t_now, .ref a_t_isKept, .ref a_t_tried, .ref a_t_row, .int t_rowLong, .ref a_t_who, .ref a_t_then, .int t_homes, .ref a_t_best, .int t_bestValue, .ref a_t_seenAs, .ref a_t_seenAt, .int t_seen, .ref a_t_plan, .int t_planMany]))], [(a_t_streets, .inl (cI, 2, .inl t_streets))], [(a_t_ends, .inl (cI, 48, .inl t_ends))], [(a_t_time, .inl (cI, 24, .inl t_time))], [(a_t_leaders, .inl (cI, 2, .inl t_leaders))], [(a_t_home, .inl (cI, 12, .inl t_home))], [(a_t_feet, .inl (cI, 12, .inl t_feet))], [(a_t_far, .inl (cI, 64, .inl t_far))], [(a_t_now, .inl (cI, 564, .inl t_now))], [(a_t_tried, .inl (cI, 17, .inl t_tried))], [(a_t_row, .inl (cI, 6, .inl t_row))], [(a_t_who, .inl (cI, 6, .inl t_who))], [(a_t_then, .inl (cI, 6, .inl t_then))], [(a_t_seenAs, .inl (cI, 6, .inl t_seenAs))], [(a_t_seenAt, .inl (cI, 6, .inl t_seenAt))]]
def rmX10_fits : Room := { frames := 3, cells := 0, slots := 0, locals := 75 }
theorem kX10_fits_1 : Cond.fieldLink RX10 158 "FeastMarchModel" "rowLong" "I" ∈ wsX10_fits := List.mem_of_getElem? (i := 1) rfl
theorem kX10_fits_2 : Cond.fieldLink RX10 51 "FeastMarchModel" "who" "[I" ∈ wsX10_fits := List.mem_of_getElem? (i := 2) rfl
theorem iX10_fits_X10 : ∀ w ∈ wsX100, w ∈ wsX10_fits := fun _ h => List.mem_cons_of_mem _ (List.mem_append_right _ h)
theorem n_X10_fits : yX10_fits.cls = RX10 ∧ yX10_fits.cls ≠ "java/lang/invoke/MethodHandle" ∧ yX10_fits.cls ≠ "java/lang/invoke/VarHandle" ∧ (parseMethodDescriptor yX10_fits.desc).map (fun d => d.parameters.length) = some 1 := by decide +kernel
set_option maxHeartbeats 4000000 in
set_option maxRecDepth 100000 in
theorem c_X10_fits (l : Launch) (D : va_G) (N : Nat) (cI cB cZ cM cJ cK : ClassId) (a_t a_t_text a_t_corners a_t_streets a_t_ends a_t_time a_t_leaders a_t_home a_t_feet a_t_far a_t_now a_t_isKept a_t_tried a_t_row a_t_who a_t_then a_t_best a_t_seenAs a_t_seenAt a_t_plan : Nat) (t_trace : Int64) (t_typed t_at t_start t_sort t_value t_fault t_rowLong t_homes t_bestValue t_seen t_planMany : Int32) (t_streets t_ends t_time t_leaders t_home t_feet t_far t_now t_tried t_row t_who t_then t_seenAs t_seenAt : Nat → Int32) (x1 : Int32) : gM l yX10_fits wsX10_fits rmX10_fits D (gT cI cB cZ cM cJ cK) (wX10_fits cI cB cZ cM cJ cK  a_t a_t_text a_t_corners a_t_streets a_t_ends a_t_time a_t_leaders a_t_home a_t_feet a_t_far a_t_now a_t_isKept a_t_tried a_t_row a_t_who a_t_then a_t_best a_t_seenAs a_t_seenAt a_t_plan t_trace t_typed t_at t_start t_sort t_value t_fault t_rowLong t_homes t_bestValue t_seen t_planMany t_streets t_ends t_time t_leaders t_home t_feet t_far t_now t_tried t_row t_who t_then t_seenAs t_seenAt) [.ref a_t, .int x1] (fX10_fits N t_rowLong t_homes t_seen t_streets t_ends t_time t_leaders t_home t_feet t_far t_now t_tried t_row t_who t_then t_seenAs t_seenAt x1) (fun _u : Int32 × Int32 × Int32 × (Nat → Int32) × (Nat → Int32) × (Nat → Int32) × (Nat → Int32) => some (.int _u.1)) (fun _u : Int32 × Int32 × Int32 × (Nat → Int32) × (Nat → Int32) × (Nat → Int32) × (Nat → Int32) => (wX10_fits cI cB cZ cM cJ cK  a_t a_t_text a_t_corners a_t_streets a_t_ends a_t_time a_t_leaders a_t_home a_t_feet a_t_far a_t_now a_t_isKept a_t_tried a_t_row a_t_who a_t_then a_t_best a_t_seenAs a_t_seenAt a_t_plan t_trace t_typed t_at t_start t_sort t_value t_fault _u.2.1 _u.2.2.1 t_bestValue t_seen t_planMany t_streets t_ends t_time t_leaders t_home t_feet t_far t_now _u.2.2.2.1 _u.2.2.2.2.1 _u.2.2.2.2.2.1 _u.2.2.2.2.2.2 t_seenAs t_seenAt)) := by
  refine g_start (cc := cX10_fits) (maxL := 6) (ret := (some .int)) (by decide) rfl (Nat.le_of_ble_eq_true rfl) ?_
  intro F hf hF p e s m below meth c A ls S hK hA Wd hr hlk hnm hl
  have b69 : ∀ (K22 : Int32 → Int32 → (Nat → Int32) → (Nat → Int32) → (Nat → Int32) → (Nat → Int32) → Int32 → Int32 → Int32 → Option (Int32 × Int32 × Int32 × (Nat → Int32) × (Nat → Int32) × (Nat → Int32) × (Nat → Int32))) (hK22 : ∀ (t_rowLong t_homes : Int32) (t_tried t_row t_who t_then : Nat → Int32) (x2 x3 x4 : Int32) (H1 : Heap) (locs1 : List Loc) (ls1 : Array Slot), gw D A s.heap (wX10_fits cI cB cZ cM cJ cK  a_t a_t_text a_t_corners a_t_streets a_t_ends a_t_time a_t_leaders a_t_home a_t_feet a_t_far a_t_now a_t_isKept a_t_tried a_t_row a_t_who a_t_then a_t_best a_t_seenAs a_t_seenAt a_t_plan t_trace t_typed t_at t_start t_sort t_value t_fault t_rowLong t_homes t_bestValue t_seen t_planMany t_streets t_ends t_time t_leaders t_home t_feet t_far t_now t_tried t_row t_who t_then t_seenAs t_seenAt) H1 locs1 → lv_has ls1 6 [(0, .ref a_t), (1, .int x1), (2, .int x2), (3, .int x3), (4, .int x4)] → F = K22 t_rowLong t_homes t_tried t_row t_who t_then x2 x3 x4 → W p l e rmX10_fits s m [.ref a_t, .int x1].toArray below meth c H1 locs1 0 0 (MQ below (gQ F (fun _u : Int32 × Int32 × Int32 × (Nat → Int32) × (Nat → Int32) × (Nat → Int32) × (Nat → Int32) => some (.int _u.1)) (fun _u : Int32 × Int32 × Int32 × (Nat → Int32) × (Nat → Int32) × (Nat → Int32) × (Nat → Int32) => (wX10_fits cI cB cZ cM cJ cK  a_t a_t_text a_t_corners a_t_streets a_t_ends a_t_time a_t_leaders a_t_home a_t_feet a_t_far a_t_now a_t_isKept a_t_tried a_t_row a_t_who a_t_then a_t_best a_t_seenAs a_t_seenAt a_t_plan t_trace t_typed t_at t_start t_sort t_value t_fault _u.2.1 _u.2.2.1 t_bestValue t_seen t_planMany t_streets t_ends t_time t_leaders t_home t_feet t_far t_now _u.2.2.2.1 _u.2.2.2.2.1 _u.2.2.2.2.2.1 _u.2.2.2.2.2.2 t_seenAs t_seenAt)) D A) [.ref a_t, .int x1].toArray s 0 0 A) (F0 m 22 ls1 [])) , ∀ (t_rowLong t_homes : Int32) (t_tried t_row t_who t_then : Nat → Int32) (x3 x4 : Int32) (H1 : Heap) (locs1 : List Loc) (ls1 : Array Slot), gw D A s.heap (wX10_fits cI cB cZ cM cJ cK  a_t a_t_text a_t_corners a_t_streets a_t_ends a_t_time a_t_leaders a_t_home a_t_feet a_t_far a_t_now a_t_isKept a_t_tried a_t_row a_t_who a_t_then a_t_best a_t_seenAs a_t_seenAt a_t_plan t_trace t_typed t_at t_start t_sort t_value t_fault t_rowLong t_homes t_bestValue t_seen t_planMany t_streets t_ends t_time t_leaders t_home t_feet t_far t_now t_tried t_row t_who t_then t_seenAs t_seenAt) H1 locs1 → lv_has ls1 6 [(0, .ref a_t), (1, .int x1), (3, .int x3), (4, .int x4)] → F = fX10_fits_b69 N t_seen t_streets t_ends t_time t_leaders t_home t_feet t_far t_now t_seenAs t_seenAt x1 K22 t_rowLong t_homes t_tried t_row t_who t_then x3 x4 → W p l e rmX10_fits s m [.ref a_t, .int x1].toArray below meth c H1 locs1 0 0 (MQ below (gQ F (fun _u : Int32 × Int32 × Int32 × (Nat → Int32) × (Nat → Int32) × (Nat → Int32) × (Nat → Int32) => some (.int _u.1)) (fun _u : Int32 × Int32 × Int32 × (Nat → Int32) × (Nat → Int32) × (Nat → Int32) × (Nat → Int32) => (wX10_fits cI cB cZ cM cJ cK  a_t a_t_text a_t_corners a_t_streets a_t_ends a_t_time a_t_leaders a_t_home a_t_feet a_t_far a_t_now a_t_isKept a_t_tried a_t_row a_t_who a_t_then a_t_best a_t_seenAs a_t_seenAt a_t_plan t_trace t_typed t_at t_start t_sort t_value t_fault _u.2.1 _u.2.2.1 t_bestValue t_seen t_planMany t_streets t_ends t_time t_leaders t_home t_feet t_far t_now _u.2.2.2.1 _u.2.2.2.2.1 _u.2.2.2.2.2.1 _u.2.2.2.2.2.2 t_seenAs t_seenAt)) D A) [.ref a_t, .int x1].toArray s 0 0 A) (F0 m 69 ls1 []) := by
    intro K22 hK22 t_rowLong t_homes t_tried t_row t_who t_then x3 x4 H locs ls Wd hl hf
    refine lv_aload_n S.1 S.2.1 dX10_fits_69 rfl (lv_at hl 0 rfl) ?_
    obtain ⟨u13, hu13, hf⟩ := g_bind hF hf
    refine g_callV (ws' := (wX10_fits cI cB cZ cM cJ cK  a_t a_t_text a_t_corners a_t_streets a_t_ends a_t_time a_t_leaders a_t_home a_t_feet a_t_far a_t_now a_t_isKept a_t_tried a_t_row a_t_who a_t_then a_t_best a_t_seenAs a_t_seenAt a_t_plan t_trace t_typed t_at t_start t_sort t_value t_fault t_rowLong t_homes t_bestValue t_seen t_planMany t_streets t_ends t_time t_leaders t_home t_feet t_far t_now t_tried u13.2 t_who t_then t_seenAs t_seenAt)) (As := []) (rest := []) (st1 := [.int u13.1]) S hK hA Wd (c_X10_nextRow l D N cI cB cZ cM cJ cK a_t a_t_text a_t_corners a_t_streets a_t_ends a_t_time a_t_leaders a_t_home a_t_feet a_t_far a_t_now a_t_isKept a_t_tried a_t_row a_t_who a_t_then a_t_best a_t_seenAs a_t_seenAt a_t_plan t_trace t_typed t_at t_start t_sort t_value t_fault t_rowLong t_homes t_bestValue t_seen t_planMany t_row) (cwV 0 S.2.2.2.2 gX10_fits_X10_nextRow rfl rfl rfl n_X10_nextRow ⟨Nat.le_of_ble_eq_true rfl, Nat.le_of_ble_eq_true rfl⟩) hu13 [0, 10] rfl rfl 0 10 rfl rfl rfl rfl rfl rfl rfl hl.1 rfl (Nat.le_of_ble_eq_true rfl) dX10_fits_70 ⟨Nat.zero_le _, Nat.zero_le _⟩ (fun H locs Wd => ?_)
    refine lv_istore_n (lv' := [(2, .int u13.1), (0, .ref a_t), (1, .int x1), (3, .int x3), (4, .int x4)]) S.1 S.2.1 dX10_fits_73 rfl hl (by decide) rfl (fun ls hl => ?_)
    refine lv_goto (tgt := 22) S.1 S.2.1 dX10_fits_74 rfl ?_
    exact hK22 t_rowLong t_homes t_tried u13.2 t_who t_then u13.1 x3 x4 _ _ _ Wd (lv_sub hl [1, 2, 0, 3, 4] rfl) hf
  have b66 : ∀ (K22 : Int32 → Int32 → (Nat → Int32) → (Nat → Int32) → (Nat → Int32) → (Nat → Int32) → Int32 → Int32 → Int32 → Option (Int32 × Int32 × Int32 × (Nat → Int32) × (Nat → Int32) × (Nat → Int32) × (Nat → Int32))) (hK22 : ∀ (t_rowLong t_homes : Int32) (t_tried t_row t_who t_then : Nat → Int32) (x2 x3 x4 : Int32) (H1 : Heap) (locs1 : List Loc) (ls1 : Array Slot), gw D A s.heap (wX10_fits cI cB cZ cM cJ cK  a_t a_t_text a_t_corners a_t_streets a_t_ends a_t_time a_t_leaders a_t_home a_t_feet a_t_far a_t_now a_t_isKept a_t_tried a_t_row a_t_who a_t_then a_t_best a_t_seenAs a_t_seenAt a_t_plan t_trace t_typed t_at t_start t_sort t_value t_fault t_rowLong t_homes t_bestValue t_seen t_planMany t_streets t_ends t_time t_leaders t_home t_feet t_far t_now t_tried t_row t_who t_then t_seenAs t_seenAt) H1 locs1 → lv_has ls1 6 [(0, .ref a_t), (1, .int x1), (2, .int x2), (3, .int x3), (4, .int x4)] → F = K22 t_rowLong t_homes t_tried t_row t_who t_then x2 x3 x4 → W p l e rmX10_fits s m [.ref a_t, .int x1].toArray below meth c H1 locs1 0 0 (MQ below (gQ F (fun _u : Int32 × Int32 × Int32 × (Nat → Int32) × (Nat → Int32) × (Nat → Int32) × (Nat → Int32) => some (.int _u.1)) (fun _u : Int32 × Int32 × Int32 × (Nat → Int32) × (Nat → Int32) × (Nat → Int32) × (Nat → Int32) => (wX10_fits cI cB cZ cM cJ cK  a_t a_t_text a_t_corners a_t_streets a_t_ends a_t_time a_t_leaders a_t_home a_t_feet a_t_far a_t_now a_t_isKept a_t_tried a_t_row a_t_who a_t_then a_t_best a_t_seenAs a_t_seenAt a_t_plan t_trace t_typed t_at t_start t_sort t_value t_fault _u.2.1 _u.2.2.1 t_bestValue t_seen t_planMany t_streets t_ends t_time t_leaders t_home t_feet t_far t_now _u.2.2.2.1 _u.2.2.2.2.1 _u.2.2.2.2.2.1 _u.2.2.2.2.2.2 t_seenAs t_seenAt)) D A) [.ref a_t, .int x1].toArray s 0 0 A) (F0 m 22 ls1 [])) , ∀ (t_rowLong t_homes : Int32) (t_tried t_row t_who t_then : Nat → Int32) (x3 y0 y1 : Int32) (H1 : Heap) (locs1 : List Loc) (ls1 : Array Slot), gw D A s.heap (wX10_fits cI cB cZ cM cJ cK  a_t a_t_text a_t_corners a_t_streets a_t_ends a_t_time a_t_leaders a_t_home a_t_feet a_t_far a_t_now a_t_isKept a_t_tried a_t_row a_t_who a_t_then a_t_best a_t_seenAs a_t_seenAt a_t_plan t_trace t_typed t_at t_start t_sort t_value t_fault t_rowLong t_homes t_bestValue t_seen t_planMany t_streets t_ends t_time t_leaders t_home t_feet t_far t_now t_tried t_row t_who t_then t_seenAs t_seenAt) H1 locs1 → lv_has ls1 6 [(0, .ref a_t), (1, .int x1), (3, .int x3)] → F = fX10_fits_b66 N t_seen t_streets t_ends t_time t_leaders t_home t_feet t_far t_now t_seenAs t_seenAt x1 K22 t_rowLong t_homes t_tried t_row t_who t_then x3 y0 y1 → W p l e rmX10_fits s m [.ref a_t, .int x1].toArray below meth c H1 locs1 0 0 (MQ below (gQ F (fun _u : Int32 × Int32 × Int32 × (Nat → Int32) × (Nat → Int32) × (Nat → Int32) × (Nat → Int32) => some (.int _u.1)) (fun _u : Int32 × Int32 × Int32 × (Nat → Int32) × (Nat → Int32) × (Nat → Int32) × (Nat → Int32) => (wX10_fits cI cB cZ cM cJ cK  a_t a_t_text a_t_corners a_t_streets a_t_ends a_t_time a_t_leaders a_t_home a_t_feet a_t_far a_t_now a_t_isKept a_t_tried a_t_row a_t_who a_t_then a_t_best a_t_seenAs a_t_seenAt a_t_plan t_trace t_typed t_at t_start t_sort t_value t_fault _u.2.1 _u.2.2.1 t_bestValue t_seen t_planMany t_streets t_ends t_time t_leaders t_home t_feet t_far t_now _u.2.2.2.1 _u.2.2.2.2.1 _u.2.2.2.2.2.1 _u.2.2.2.2.2.2 t_seenAs t_seenAt)) D A) [.ref a_t, .int x1].toArray s 0 0 A) (F0 m 66 ls1 [.int y0, .int y1]) := by
    intro K22 hK22 t_rowLong t_homes t_tried t_row t_who t_then x3 y0 y1 H locs ls Wd hl hf
    refine lv_ior S.1 S.2.1 dX10_fits_66 ?_
    refine lv_istore (lv' := [(4, .int (y1 ||| y0)), (0, .ref a_t), (1, .int x1), (3, .int x3)]) S.1 S.2.1 dX10_fits_67 hl (by decide) rfl (fun ls hl => ?_)
    exact b69 K22 hK22 t_rowLong t_homes t_tried t_row t_who t_then x3 (y1 ||| y0) _ _ _ Wd (lv_sub hl [1, 2, 3, 0] rfl) hf
  have b65 : ∀ (K22 : Int32 → Int32 → (Nat → Int32) → (Nat → Int32) → (Nat → Int32) → (Nat → Int32) → Int32 → Int32 → Int32 → Option (Int32 × Int32 × Int32 × (Nat → Int32) × (Nat → Int32) × (Nat → Int32) × (Nat → Int32))) (hK22 : ∀ (t_rowLong t_homes : Int32) (t_tried t_row t_who t_then : Nat → Int32) (x2 x3 x4 : Int32) (H1 : Heap) (locs1 : List Loc) (ls1 : Array Slot), gw D A s.heap (wX10_fits cI cB cZ cM cJ cK  a_t a_t_text a_t_corners a_t_streets a_t_ends a_t_time a_t_leaders a_t_home a_t_feet a_t_far a_t_now a_t_isKept a_t_tried a_t_row a_t_who a_t_then a_t_best a_t_seenAs a_t_seenAt a_t_plan t_trace t_typed t_at t_start t_sort t_value t_fault t_rowLong t_homes t_bestValue t_seen t_planMany t_streets t_ends t_time t_leaders t_home t_feet t_far t_now t_tried t_row t_who t_then t_seenAs t_seenAt) H1 locs1 → lv_has ls1 6 [(0, .ref a_t), (1, .int x1), (2, .int x2), (3, .int x3), (4, .int x4)] → F = K22 t_rowLong t_homes t_tried t_row t_who t_then x2 x3 x4 → W p l e rmX10_fits s m [.ref a_t, .int x1].toArray below meth c H1 locs1 0 0 (MQ below (gQ F (fun _u : Int32 × Int32 × Int32 × (Nat → Int32) × (Nat → Int32) × (Nat → Int32) × (Nat → Int32) => some (.int _u.1)) (fun _u : Int32 × Int32 × Int32 × (Nat → Int32) × (Nat → Int32) × (Nat → Int32) × (Nat → Int32) => (wX10_fits cI cB cZ cM cJ cK  a_t a_t_text a_t_corners a_t_streets a_t_ends a_t_time a_t_leaders a_t_home a_t_feet a_t_far a_t_now a_t_isKept a_t_tried a_t_row a_t_who a_t_then a_t_best a_t_seenAs a_t_seenAt a_t_plan t_trace t_typed t_at t_start t_sort t_value t_fault _u.2.1 _u.2.2.1 t_bestValue t_seen t_planMany t_streets t_ends t_time t_leaders t_home t_feet t_far t_now _u.2.2.2.1 _u.2.2.2.2.1 _u.2.2.2.2.2.1 _u.2.2.2.2.2.2 t_seenAs t_seenAt)) D A) [.ref a_t, .int x1].toArray s 0 0 A) (F0 m 22 ls1 [])) , ∀ (t_rowLong t_homes : Int32) (t_tried t_row t_who t_then : Nat → Int32) (x3 y0 : Int32) (H1 : Heap) (locs1 : List Loc) (ls1 : Array Slot), gw D A s.heap (wX10_fits cI cB cZ cM cJ cK  a_t a_t_text a_t_corners a_t_streets a_t_ends a_t_time a_t_leaders a_t_home a_t_feet a_t_far a_t_now a_t_isKept a_t_tried a_t_row a_t_who a_t_then a_t_best a_t_seenAs a_t_seenAt a_t_plan t_trace t_typed t_at t_start t_sort t_value t_fault t_rowLong t_homes t_bestValue t_seen t_planMany t_streets t_ends t_time t_leaders t_home t_feet t_far t_now t_tried t_row t_who t_then t_seenAs t_seenAt) H1 locs1 → lv_has ls1 6 [(0, .ref a_t), (1, .int x1), (3, .int x3)] → F = fX10_fits_b65 N t_seen t_streets t_ends t_time t_leaders t_home t_feet t_far t_now t_seenAs t_seenAt x1 K22 t_rowLong t_homes t_tried t_row t_who t_then x3 y0 → W p l e rmX10_fits s m [.ref a_t, .int x1].toArray below meth c H1 locs1 0 0 (MQ below (gQ F (fun _u : Int32 × Int32 × Int32 × (Nat → Int32) × (Nat → Int32) × (Nat → Int32) × (Nat → Int32) => some (.int _u.1)) (fun _u : Int32 × Int32 × Int32 × (Nat → Int32) × (Nat → Int32) × (Nat → Int32) × (Nat → Int32) => (wX10_fits cI cB cZ cM cJ cK  a_t a_t_text a_t_corners a_t_streets a_t_ends a_t_time a_t_leaders a_t_home a_t_feet a_t_far a_t_now a_t_isKept a_t_tried a_t_row a_t_who a_t_then a_t_best a_t_seenAs a_t_seenAt a_t_plan t_trace t_typed t_at t_start t_sort t_value t_fault _u.2.1 _u.2.2.1 t_bestValue t_seen t_planMany t_streets t_ends t_time t_leaders t_home t_feet t_far t_now _u.2.2.2.1 _u.2.2.2.2.1 _u.2.2.2.2.2.1 _u.2.2.2.2.2.2 t_seenAs t_seenAt)) D A) [.ref a_t, .int x1].toArray s 0 0 A) (F0 m 65 ls1 [.int y0]) := by
    intro K22 hK22 t_rowLong t_homes t_tried t_row t_who t_then x3 y0 H locs ls Wd hl hf
    refine lv_iconst (v := 0) S.1 S.2.1 dX10_fits_65 (by decide) ?_
    exact b66 K22 hK22 t_rowLong t_homes t_tried t_row t_who t_then x3 (0 : Int32) y0 _ _ _ Wd hl hf
  have b87 : ∀ (t_rowLong t_homes : Int32) (t_tried t_row t_who t_then : Nat → Int32) (x3 : Int32) (H1 : Heap) (locs1 : List Loc) (ls1 : Array Slot), gw D A s.heap (wX10_fits cI cB cZ cM cJ cK  a_t a_t_text a_t_corners a_t_streets a_t_ends a_t_time a_t_leaders a_t_home a_t_feet a_t_far a_t_now a_t_isKept a_t_tried a_t_row a_t_who a_t_then a_t_best a_t_seenAs a_t_seenAt a_t_plan t_trace t_typed t_at t_start t_sort t_value t_fault t_rowLong t_homes t_bestValue t_seen t_planMany t_streets t_ends t_time t_leaders t_home t_feet t_far t_now t_tried t_row t_who t_then t_seenAs t_seenAt) H1 locs1 → lv_has ls1 6 [(1, .int x1), (3, .int x3)] → F = fX10_fits_b87 N t_seen t_streets t_ends t_time t_leaders t_home t_feet t_far t_now t_seenAs t_seenAt x1  t_rowLong t_homes t_tried t_row t_who t_then x3 → W p l e rmX10_fits s m [.ref a_t, .int x1].toArray below meth c H1 locs1 0 0 (MQ below (gQ F (fun _u : Int32 × Int32 × Int32 × (Nat → Int32) × (Nat → Int32) × (Nat → Int32) × (Nat → Int32) => some (.int _u.1)) (fun _u : Int32 × Int32 × Int32 × (Nat → Int32) × (Nat → Int32) × (Nat → Int32) × (Nat → Int32) => (wX10_fits cI cB cZ cM cJ cK  a_t a_t_text a_t_corners a_t_streets a_t_ends a_t_time a_t_leaders a_t_home a_t_feet a_t_far a_t_now a_t_isKept a_t_tried a_t_row a_t_who a_t_then a_t_best a_t_seenAs a_t_seenAt a_t_plan t_trace t_typed t_at t_start t_sort t_value t_fault _u.2.1 _u.2.2.1 t_bestValue t_seen t_planMany t_streets t_ends t_time t_leaders t_home t_feet t_far t_now _u.2.2.2.1 _u.2.2.2.2.1 _u.2.2.2.2.2.1 _u.2.2.2.2.2.2 t_seenAs t_seenAt)) D A) [.ref a_t, .int x1].toArray s 0 0 A) (F0 m 87 ls1 []) := by
    intro  t_rowLong t_homes t_tried t_row t_who t_then x3 H locs ls Wd hl hf
    refine lv_iload_n S.1 S.2.1 dX10_fits_87 rfl (lv_at hl 0 rfl) ?_
    refine lv_iconst (v := (-1)) S.1 S.2.1 dX10_fits_88 (by decide) ?_
    refine lv_icmp_ne (tgt := 96) S.1 S.2.1 dX10_fits_89 rfl (fun c16 => ?_) (fun c16 => ?_)
    · have hf := g_ifn hf c16
      refine lv_bipush (v := (-9)) S.1 S.2.1 dX10_fits_96 (by decide) ?_
      exact g_iret S Wd hr hlk dX10_fits_98 ((-9 : Int32), t_rowLong, t_homes, t_tried, t_row, t_who, t_then) hf rfl rfl
    · have hf := g_if hf c16
      refine lv_iload_n S.1 S.2.1 dX10_fits_92 rfl (lv_at hl 1 rfl) ?_
      refine lv_goto (tgt := 98) S.1 S.2.1 dX10_fits_93 rfl ?_
      exact g_iret S Wd hr hlk dX10_fits_98 (x3, t_rowLong, t_homes, t_tried, t_row, t_who, t_then) hf rfl rfl
  have b102 : ∀ (n : Nat), ∀ (t_rowLong t_homes : Int32) (t_tried t_row t_who t_then : Nat → Int32) (x4 x5 : Int32) (H1 : Heap) (locs1 : List Loc) (ls1 : Array Slot), gw D A s.heap (wX10_fits cI cB cZ cM cJ cK  a_t a_t_text a_t_corners a_t_streets a_t_ends a_t_time a_t_leaders a_t_home a_t_feet a_t_far a_t_now a_t_isKept a_t_tried a_t_row a_t_who a_t_then a_t_best a_t_seenAs a_t_seenAt a_t_plan t_trace t_typed t_at t_start t_sort t_value t_fault t_rowLong t_homes t_bestValue t_seen t_planMany t_streets t_ends t_time t_leaders t_home t_feet t_far t_now t_tried t_row t_who t_then t_seenAs t_seenAt) H1 locs1 → lv_has ls1 6 [(4, .int x4), (5, .int x5)] → F = fX10_fits_b102 N t_seen t_streets t_ends t_time t_leaders t_home t_feet t_far t_now t_seenAs t_seenAt x1  n t_rowLong t_homes t_tried t_row t_who t_then x4 x5 → W p l e rmX10_fits s m [.ref a_t, .int x1].toArray below meth c H1 locs1 0 0 (MQ below (gQ F (fun _u : Int32 × Int32 × Int32 × (Nat → Int32) × (Nat → Int32) × (Nat → Int32) × (Nat → Int32) => some (.int _u.1)) (fun _u : Int32 × Int32 × Int32 × (Nat → Int32) × (Nat → Int32) × (Nat → Int32) × (Nat → Int32) => (wX10_fits cI cB cZ cM cJ cK  a_t a_t_text a_t_corners a_t_streets a_t_ends a_t_time a_t_leaders a_t_home a_t_feet a_t_far a_t_now a_t_isKept a_t_tried a_t_row a_t_who a_t_then a_t_best a_t_seenAs a_t_seenAt a_t_plan t_trace t_typed t_at t_start t_sort t_value t_fault _u.2.1 _u.2.2.1 t_bestValue t_seen t_planMany t_streets t_ends t_time t_leaders t_home t_feet t_far t_now _u.2.2.2.1 _u.2.2.2.2.1 _u.2.2.2.2.2.1 _u.2.2.2.2.2.2 t_seenAs t_seenAt)) D A) [.ref a_t, .int x1].toArray s 0 0 A) (F0 m 102 ls1 []) := by
    intro  n
    induction n with
    | zero => intro t_rowLong t_homes t_tried t_row t_who t_then x4 x5 H locs ls Wd hl hf; exact absurd hf hF
    | succ n ih =>
      intro t_rowLong t_homes t_tried t_row t_who t_then x4 x5 H locs ls Wd hl hf
      refine lv_iload S.1 S.2.1 dX10_fits_102 (lv_at hl 0 rfl) ?_
      refine lv_iload S.1 S.2.1 dX10_fits_104 (lv_at hl 1 rfl) ?_
      refine lv_ishr S.1 S.2.1 dX10_fits_106 ?_
      refine lv_iconst (v := 1) S.1 S.2.1 dX10_fits_107 (by decide) ?_
      refine lv_iand S.1 S.2.1 dX10_fits_108 ?_
      refine lv_if_ne (tgt := 118) S.1 S.2.1 dX10_fits_109 rfl (fun c14 => ?_) (fun c14 => ?_)
      · have hf := g_ifn hf c14
        refine lv_iload S.1 S.2.1 dX10_fits_118 (lv_at hl 0 rfl) ?_
        refine lv_iconst (v := 1) S.1 S.2.1 dX10_fits_120 (by decide) ?_
        refine lv_iload S.1 S.2.1 dX10_fits_121 (lv_at hl 1 rfl) ?_
        refine lv_ishl S.1 S.2.1 dX10_fits_123 ?_
        refine lv_icmp_ne (tgt := 132) S.1 S.2.1 dX10_fits_124 rfl (fun c15 => ?_) (fun c15 => ?_)
        · have hf := g_ifn hf c15
          refine lv_bipush (v := (-5)) S.1 S.2.1 dX10_fits_132 (by decide) ?_
          exact g_iret S Wd hr hlk dX10_fits_134 ((-5 : Int32), t_rowLong, t_homes, t_tried, t_row, t_who, t_then) hf rfl rfl
        · have hf := g_if hf c15
          refine lv_iload S.1 S.2.1 dX10_fits_127 (lv_at hl 1 rfl) ?_
          refine lv_goto (tgt := 134) S.1 S.2.1 dX10_fits_129 rfl ?_
          exact g_iret S Wd hr hlk dX10_fits_134 (x5, t_rowLong, t_homes, t_tried, t_row, t_who, t_then) hf rfl rfl
      · have hf := g_if hf c14
        refine lv_iinc (v := (x5 + (1 : Int32))) (lv' := [(5, .int (x5 + (1 : Int32))), (4, .int x4)]) S.1 S.2.1 dX10_fits_112 hl (k := 1) rfl rfl (by decide) rfl (fun ls hl => ?_)
        refine lv_goto (tgt := 102) S.1 S.2.1 dX10_fits_115 rfl ?_
        exact ih t_rowLong t_homes t_tried t_row t_who t_then x4 (x5 + (1 : Int32)) _ _ _ Wd (lv_sub hl [1, 0] rfl) hf
  have b22 : ∀ (n : Nat), ∀ (t_rowLong t_homes : Int32) (t_tried t_row t_who t_then : Nat → Int32) (x2 x3 x4 : Int32) (H1 : Heap) (locs1 : List Loc) (ls1 : Array Slot), gw D A s.heap (wX10_fits cI cB cZ cM cJ cK  a_t a_t_text a_t_corners a_t_streets a_t_ends a_t_time a_t_leaders a_t_home a_t_feet a_t_far a_t_now a_t_isKept a_t_tried a_t_row a_t_who a_t_then a_t_best a_t_seenAs a_t_seenAt a_t_plan t_trace t_typed t_at t_start t_sort t_value t_fault t_rowLong t_homes t_bestValue t_seen t_planMany t_streets t_ends t_time t_leaders t_home t_feet t_far t_now t_tried t_row t_who t_then t_seenAs t_seenAt) H1 locs1 → lv_has ls1 6 [(0, .ref a_t), (1, .int x1), (2, .int x2), (3, .int x3), (4, .int x4)] → F = fX10_fits_b22 N t_seen t_streets t_ends t_time t_leaders t_home t_feet t_far t_now t_seenAs t_seenAt x1  n t_rowLong t_homes t_tried t_row t_who t_then x2 x3 x4 → W p l e rmX10_fits s m [.ref a_t, .int x1].toArray below meth c H1 locs1 0 0 (MQ below (gQ F (fun _u : Int32 × Int32 × Int32 × (Nat → Int32) × (Nat → Int32) × (Nat → Int32) × (Nat → Int32) => some (.int _u.1)) (fun _u : Int32 × Int32 × Int32 × (Nat → Int32) × (Nat → Int32) × (Nat → Int32) × (Nat → Int32) => (wX10_fits cI cB cZ cM cJ cK  a_t a_t_text a_t_corners a_t_streets a_t_ends a_t_time a_t_leaders a_t_home a_t_feet a_t_far a_t_now a_t_isKept a_t_tried a_t_row a_t_who a_t_then a_t_best a_t_seenAs a_t_seenAt a_t_plan t_trace t_typed t_at t_start t_sort t_value t_fault _u.2.1 _u.2.2.1 t_bestValue t_seen t_planMany t_streets t_ends t_time t_leaders t_home t_feet t_far t_now _u.2.2.2.1 _u.2.2.2.2.1 _u.2.2.2.2.2.1 _u.2.2.2.2.2.2 t_seenAs t_seenAt)) D A) [.ref a_t, .int x1].toArray s 0 0 A) (F0 m 22 ls1 []) := by
    intro  n
    induction n with
    | zero => intro t_rowLong t_homes t_tried t_row t_who t_then x2 x3 x4 H locs ls Wd hl hf; exact absurd hf hF
    | succ n ih =>
      intro t_rowLong t_homes t_tried t_row t_who t_then x2 x3 x4 H locs ls Wd hl hf
      refine lv_iload_n S.1 S.2.1 dX10_fits_22 rfl (lv_at hl 2 rfl) ?_
      refine lv_if_eq (tgt := 77) S.1 S.2.1 dX10_fits_23 rfl (fun c4 => ?_) (fun c4 => ?_)
      · have hf := g_if hf c4
        refine lv_iload_n S.1 S.2.1 dX10_fits_77 rfl (lv_at hl 1 rfl) ?_
        refine lv_iconst (v := (-1)) S.1 S.2.1 dX10_fits_78 (by decide) ?_
        refine lv_icmp_eq (tgt := 87) S.1 S.2.1 dX10_fits_79 rfl (fun c5 => ?_) (fun c5 => ?_)
        · have hf := g_if hf c5
          exact b87  t_rowLong t_homes t_tried t_row t_who t_then x3 _ _ _ Wd (lv_sub hl [1, 3] rfl) hf
        · have hf := g_ifn hf c5
          refine lv_iload S.1 S.2.1 dX10_fits_82 (lv_at hl 4 rfl) ?_
          refine lv_if_ne (tgt := 99) S.1 S.2.1 dX10_fits_84 rfl (fun c6 => ?_) (fun c6 => ?_)
          · have hf := g_ifn hf c6
            refine lv_iconst (v := 0) S.1 S.2.1 dX10_fits_99 (by decide) ?_
            refine lv_istore (lv' := [(5, .int (0 : Int32)), (0, .ref a_t), (1, .int x1), (2, .int x2), (3, .int x3), (4, .int x4)]) S.1 S.2.1 dX10_fits_100 hl (by decide) rfl (fun ls hl => ?_)
            exact b102  N t_rowLong t_homes t_tried t_row t_who t_then x4 (0 : Int32) _ _ _ Wd (lv_sub hl [5, 0] rfl) hf
          · have hf := g_if hf c6
            exact b87  t_rowLong t_homes t_tried t_row t_who t_then x3 _ _ _ Wd (lv_sub hl [1, 3] rfl) hf
      · have hf := g_ifn hf c4
        refine lv_aload_n S.1 S.2.1 dX10_fits_26 rfl (lv_at hl 0 rfl) ?_
        obtain ⟨u7, hu7, hf⟩ := g_bind hF hf
        refine g_callV (ws' := (wX10_fits cI cB cZ cM cJ cK  a_t a_t_text a_t_corners a_t_streets a_t_ends a_t_time a_t_leaders a_t_home a_t_feet a_t_far a_t_now a_t_isKept a_t_tried a_t_row a_t_who a_t_then a_t_best a_t_seenAs a_t_seenAt a_t_plan t_trace t_typed t_at t_start t_sort t_value t_fault t_rowLong u7.1 t_bestValue t_seen t_planMany t_streets t_ends t_time t_leaders t_home t_feet t_far t_now u7.2.1 t_row u7.2.2.1 u7.2.2.2 t_seenAs t_seenAt)) (As := []) (rest := []) (st1 := []) S hK hA Wd (c_X10_run l D N cI cB cZ cM cJ cK a_t a_t_text a_t_corners a_t_streets a_t_ends a_t_time a_t_leaders a_t_home a_t_feet a_t_far a_t_now a_t_isKept a_t_tried a_t_row a_t_who a_t_then a_t_best a_t_seenAs a_t_seenAt a_t_plan t_trace t_typed t_at t_start t_sort t_value t_fault t_rowLong t_homes t_bestValue t_seen t_planMany t_streets t_ends t_time t_home t_feet t_far t_now t_tried t_row t_who t_then) (cwV 0 S.2.2.2.2 gX10_fits_X10_run rfl rfl rfl n_X10_run ⟨Nat.le_of_ble_eq_true rfl, Nat.le_of_ble_eq_true rfl⟩) hu7 [0, 1, 2, 3, 5, 6, 7, 8, 9, 10, 11, 12] rfl rfl 0 10 rfl rfl rfl rfl rfl rfl rfl hl.1 rfl (Nat.le_of_ble_eq_true rfl) dX10_fits_27 ⟨Nat.zero_le _, Nat.zero_le _⟩ (fun H locs Wd => ?_)
        refine lv_aload_n S.1 S.2.1 dX10_fits_30 rfl (lv_at hl 0 rfl) ?_
        obtain ⟨u8, hu8, hf⟩ := g_bind hF hf
        refine g_callV (ws' := (wX10_fits cI cB cZ cM cJ cK  a_t a_t_text a_t_corners a_t_streets a_t_ends a_t_time a_t_leaders a_t_home a_t_feet a_t_far a_t_now a_t_isKept a_t_tried a_t_row a_t_who a_t_then a_t_best a_t_seenAs a_t_seenAt a_t_plan t_trace t_typed t_at t_start t_sort t_value t_fault t_rowLong u7.1 t_bestValue t_seen t_planMany t_streets t_ends t_time t_leaders t_home t_feet t_far t_now u7.2.1 t_row u7.2.2.1 u7.2.2.2 t_seenAs t_seenAt)) (As := []) (rest := []) (st1 := [.int u8]) S hK hA Wd (c_X10_isSo l D N cI cB cZ cM cJ cK a_t a_t_text a_t_corners a_t_streets a_t_ends a_t_time a_t_leaders a_t_home a_t_feet a_t_far a_t_now a_t_isKept a_t_tried a_t_row a_t_who a_t_then a_t_best a_t_seenAs a_t_seenAt a_t_plan t_trace t_typed t_at t_start t_sort t_value t_fault t_rowLong u7.1 t_bestValue t_seen t_planMany u7.2.2.2 t_seenAs t_seenAt) (cwV 0 S.2.2.2.2 gX10_fits_X10_isSo rfl rfl rfl n_X10_isSo ⟨Nat.le_of_ble_eq_true rfl, Nat.le_of_ble_eq_true rfl⟩) hu8 [0, 12, 13, 14] rfl rfl 0 10 rfl rfl rfl rfl rfl rfl rfl hl.1 rfl (Nat.le_of_ble_eq_true rfl) dX10_fits_31 ⟨Nat.zero_le _, Nat.zero_le _⟩ (fun H locs Wd => ?_)
        refine lv_if_eq (tgt := 69) S.1 S.2.1 dX10_fits_34 rfl (fun c9 => ?_) (fun c9 => ?_)
        · have hf := g_if hf c9
          exact b69 (fun t_rowLong t_homes t_tried t_row t_who t_then x2 x3 x4 => fX10_fits_b22 N t_seen t_streets t_ends t_time t_leaders t_home t_feet t_far t_now t_seenAs t_seenAt x1 n t_rowLong t_homes t_tried t_row t_who t_then x2 x3 x4) ih t_rowLong u7.1 u7.2.1 t_row u7.2.2.1 u7.2.2.2 x3 x4 _ _ _ Wd (lv_sub hl [0, 1, 3, 4] rfl) hf
        · have hf := g_ifn hf c9
          refine lv_iinc (v := (x3 + (1 : Int32))) (lv' := [(3, .int (x3 + (1 : Int32))), (0, .ref a_t), (1, .int x1), (2, .int x2), (4, .int x4)]) S.1 S.2.1 dX10_fits_37 hl (k := 3) rfl rfl (by decide) rfl (fun ls hl => ?_)
          refine lv_iload S.1 S.2.1 dX10_fits_40 (lv_at hl 4 rfl) ?_
          refine lv_iload_n S.1 S.2.1 dX10_fits_42 rfl (lv_at hl 2 rfl) ?_
          refine lv_if_lt (tgt := 65) S.1 S.2.1 dX10_fits_43 rfl (fun c10 => ?_) (fun c10 => ?_)
          · have hf := g_if hf c10
            exact b65 (fun t_rowLong t_homes t_tried t_row t_who t_then x2 x3 x4 => fX10_fits_b22 N t_seen t_streets t_ends t_time t_leaders t_home t_feet t_far t_now t_seenAs t_seenAt x1 n t_rowLong t_homes t_tried t_row t_who t_then x2 x3 x4) ih t_rowLong u7.1 u7.2.1 t_row u7.2.2.1 u7.2.2.2 (x3 + (1 : Int32)) x4 _ _ _ Wd (lv_sub hl [1, 2, 0] rfl) hf
          · have hf := g_ifn hf c10
            refine lv_iload_n S.1 S.2.1 dX10_fits_46 rfl (lv_at hl 2 rfl) ?_
            refine lv_aload_n S.1 S.2.1 dX10_fits_47 rfl (lv_at hl 1 rfl) ?_
            refine g_get (a := a_t) S hK Wd iX10_fits_X10 0 rfl rfl 20 rfl rfl kX10_fits_1 rfl dX10_fits_48 ?_
            refine lv_icmp_ge (tgt := 65) S.1 S.2.1 dX10_fits_51 rfl (fun c11 => ?_) (fun c11 => ?_)
            · have hf := g_if hf c11
              exact b65 (fun t_rowLong t_homes t_tried t_row t_who t_then x2 x3 x4 => fX10_fits_b22 N t_seen t_streets t_ends t_time t_leaders t_home t_feet t_far t_now t_seenAs t_seenAt x1 n t_rowLong t_homes t_tried t_row t_who t_then x2 x3 x4) ih t_rowLong u7.1 u7.2.1 t_row u7.2.2.1 u7.2.2.2 (x3 + (1 : Int32)) x4 _ _ _ Wd (lv_sub hl [1, 2, 0] rfl) hf
            · have hf := g_ifn hf c11
              refine lv_iconst (v := 1) S.1 S.2.1 dX10_fits_54 (by decide) ?_
              refine lv_aload_n S.1 S.2.1 dX10_fits_55 rfl (lv_at hl 1 rfl) ?_
              refine g_get (a := a_t) S hK Wd iX10_fits_X10 0 rfl rfl 21 rfl rfl kX10_fits_2 rfl dX10_fits_56 ?_
              refine lv_iload_n S.1 S.2.1 dX10_fits_59 rfl (lv_at hl 2 rfl) ?_
              obtain ⟨h12, hf⟩ := g_gi hF hf
              refine g_iald (a := a_t_who) S hK Wd 11 0 rfl rfl h12 dX10_fits_60 ?_
              refine lv_ishl S.1 S.2.1 dX10_fits_61 ?_
              refine lv_goto (tgt := 66) S.1 S.2.1 dX10_fits_62 rfl ?_
              exact b66 (fun t_rowLong t_homes t_tried t_row t_who t_then x2 x3 x4 => fX10_fits_b22 N t_seen t_streets t_ends t_time t_leaders t_home t_feet t_far t_now t_seenAs t_seenAt x1 n t_rowLong t_homes t_tried t_row t_who t_then x2 x3 x4) ih t_rowLong u7.1 u7.2.1 t_row u7.2.2.1 u7.2.2.2 (x3 + (1 : Int32)) ((1 : Int32) <<< ((u7.2.2.1 x1.toNatClampNeg) &&& 31)) x4 _ _ _ Wd (lv_sub hl [1, 2, 0] rfl) hf
  refine lv_iload_n S.1 S.2.1 dX10_fits_0 rfl (lv_at hl 1 rfl) ?_
  refine lv_iconst (v := (-1)) S.1 S.2.1 dX10_fits_1 (by decide) ?_
  refine lv_iconst (v := 5) S.1 S.2.1 dX10_fits_2 (by decide) ?_
  obtain ⟨u1, hu1, hf⟩ := g_bind hF hf
  refine g_callS (ws' := (wX10_fits cI cB cZ cM cJ cK  a_t a_t_text a_t_corners a_t_streets a_t_ends a_t_time a_t_leaders a_t_home a_t_feet a_t_far a_t_now a_t_isKept a_t_tried a_t_row a_t_who a_t_then a_t_best a_t_seenAs a_t_seenAt a_t_plan t_trace t_typed t_at t_start t_sort t_value t_fault t_rowLong t_homes t_bestValue t_seen t_planMany t_streets t_ends t_time t_leaders t_home t_feet t_far t_now t_tried t_row t_who t_then t_seenAs t_seenAt)) (As := [.int x1, .int (-1 : Int32), .int (5 : Int32)]) (rest := []) (st1 := [.int u1]) S hK hA Wd (c_X10_in l D N cI cB cZ cM cJ cK x1 (-1 : Int32) (5 : Int32)) (va_cwS 3 S.2.2.2.2 gX10_fits_X10_in rfl rfl rfl n_X10_in ⟨Nat.le_of_ble_eq_true rfl, Nat.le_of_ble_eq_true rfl⟩) hu1 [] rfl rfl rfl rfl rfl rfl hl.1 rfl (Nat.le_of_ble_eq_true rfl) dX10_fits_3 ⟨Nat.zero_le _, Nat.zero_le _⟩ (fun H locs Wd => ?_)
  refine lv_if_ne (tgt := 11) S.1 S.2.1 dX10_fits_6 rfl (fun c2 => ?_) (fun c2 => ?_)
  · have hf := g_ifn hf c2
    refine lv_aload_n S.1 S.2.1 dX10_fits_11 rfl (lv_at hl 0 rfl) ?_
    obtain ⟨u3, hu3, hf⟩ := g_bind hF hf
    refine g_callV (ws' := (wX10_fits cI cB cZ cM cJ cK  a_t a_t_text a_t_corners a_t_streets a_t_ends a_t_time a_t_leaders a_t_home a_t_feet a_t_far a_t_now a_t_isKept a_t_tried a_t_row a_t_who a_t_then a_t_best a_t_seenAs a_t_seenAt a_t_plan t_trace t_typed t_at t_start t_sort t_value t_fault u3.1 t_homes t_bestValue t_seen t_planMany t_streets t_ends t_time t_leaders t_home t_feet t_far t_now t_tried u3.2 t_who t_then t_seenAs t_seenAt)) (As := []) (rest := []) (st1 := []) S hK hA Wd (c_X10_firstRow l D N cI cB cZ cM cJ cK a_t a_t_text a_t_corners a_t_streets a_t_ends a_t_time a_t_leaders a_t_home a_t_feet a_t_far a_t_now a_t_isKept a_t_tried a_t_row a_t_who a_t_then a_t_best a_t_seenAs a_t_seenAt a_t_plan t_trace t_typed t_at t_start t_sort t_value t_fault t_rowLong t_homes t_bestValue t_seen t_planMany t_leaders t_now t_row) (cwV 0 S.2.2.2.2 gX10_fits_X10_firstRow rfl rfl rfl n_X10_firstRow ⟨Nat.le_of_ble_eq_true rfl, Nat.le_of_ble_eq_true rfl⟩) hu3 [0, 4, 8, 10] rfl rfl 0 10 rfl rfl rfl rfl rfl rfl rfl hl.1 rfl (Nat.le_of_ble_eq_true rfl) dX10_fits_12 ⟨Nat.zero_le _, Nat.zero_le _⟩ (fun H locs Wd => ?_)
    refine lv_iconst (v := 1) S.1 S.2.1 dX10_fits_15 (by decide) ?_
    refine lv_istore_n (lv' := [(2, .int (1 : Int32)), (0, .ref a_t), (1, .int x1)]) S.1 S.2.1 dX10_fits_16 rfl hl (by decide) rfl (fun ls hl => ?_)
    refine lv_iconst (v := 0) S.1 S.2.1 dX10_fits_17 (by decide) ?_
    refine lv_istore_n (lv' := [(3, .int (0 : Int32)), (2, .int (1 : Int32)), (0, .ref a_t), (1, .int x1)]) S.1 S.2.1 dX10_fits_18 rfl hl (by decide) rfl (fun ls hl => ?_)
    refine lv_iconst (v := 0) S.1 S.2.1 dX10_fits_19 (by decide) ?_
    refine lv_istore (lv' := [(4, .int (0 : Int32)), (3, .int (0 : Int32)), (2, .int (1 : Int32)), (0, .ref a_t), (1, .int x1)]) S.1 S.2.1 dX10_fits_20 hl (by decide) rfl (fun ls hl => ?_)
    exact b22  N u3.1 t_homes t_tried u3.2 t_who t_then (1 : Int32) (0 : Int32) (0 : Int32) _ _ _ Wd (lv_sub hl [3, 4, 2, 1, 0] rfl) hf
  · have hf := g_if hf c2
    refine lv_iconst (v := (-1)) S.1 S.2.1 dX10_fits_9 (by decide) ?_
    exact g_iret S Wd hr hlk dX10_fits_10 ((-1 : Int32), t_rowLong, t_homes, t_tried, t_row, t_who, t_then) hf rfl rfl
def wX10_plans (cI cB cZ cM cJ cK : ClassId) (a_t a_t_text a_t_corners a_t_streets a_t_ends a_t_time a_t_leaders a_t_home a_t_feet a_t_far a_t_now a_t_isKept a_t_tried a_t_row a_t_who a_t_then a_t_best a_t_seenAs a_t_seenAt a_t_plan : Nat) (t_trace : Int64) (t_typed t_at t_start t_sort t_value t_fault t_rowLong t_homes t_bestValue t_seen t_planMany : Int32) (t_leaders t_plan : Nat → Int32) : List va_W := [[(a_t, .inr (10, [.long t_trace, .ref a_t_text, .int t_typed, .ref a_t_corners, .ref a_t_streets, .ref a_t_ends, .ref a_t_time, .ref a_t_leaders, .ref a_t_home, .ref a_t_feet, .int t_at, .int t_start, .int t_sort, .int t_value, .int t_fault, .ref a_t_far, .ref a_t_now, .ref a_t_isKept, .ref a_t_tried, .ref a_t_row, .int t_rowLong, .ref a_t_who, .ref a_t_then, .int t_homes, .ref a_t_best, .int t_bestValue, .ref a_t_seenAs, .ref a_t_seenAt, .int t_seen, .ref a_t_plan, .int t_planMany]))], [(a_t_leaders, .inl (cI, 2, .inl t_leaders))], [(a_t_plan, .inl (cI, 6, .inl t_plan))]]
def rmX10_plans : Room := { frames := 2, cells := 0, slots := 0, locals := 43 }
theorem kX10_plans_1 : Cond.fieldLink RX10 119 "FeastMarchModel" "planMany" "I" ∈ wsX10_plans := List.mem_of_getElem? (i := 1) rfl
theorem kX10_plans_2 : Cond.fieldLink RX10 66 "FeastMarchModel" "plan" "[I" ∈ wsX10_plans := List.mem_of_getElem? (i := 2) rfl
theorem iX10_plans_X10 : ∀ w ∈ wsX100, w ∈ wsX10_plans := fun _ h => List.mem_cons_of_mem _ (List.mem_append_right _ h)
theorem n_X10_plans : yX10_plans.cls = RX10 ∧ yX10_plans.cls ≠ "java/lang/invoke/MethodHandle" ∧ yX10_plans.cls ≠ "java/lang/invoke/VarHandle" ∧ (parseMethodDescriptor yX10_plans.desc).map (fun d => d.parameters.length) = some 1 := by decide +kernel
set_option maxHeartbeats 4000000 in
set_option maxRecDepth 100000 in
theorem c_X10_plans (l : Launch) (D : va_G) (N : Nat) (cI cB cZ cM cJ cK : ClassId) (a_t a_t_text a_t_corners a_t_streets a_t_ends a_t_time a_t_leaders a_t_home a_t_feet a_t_far a_t_now a_t_isKept a_t_tried a_t_row a_t_who a_t_then a_t_best a_t_seenAs a_t_seenAt a_t_plan : Nat) (t_trace : Int64) (t_typed t_at t_start t_sort t_value t_fault t_rowLong t_homes t_bestValue t_seen t_planMany : Int32) (t_leaders t_plan : Nat → Int32) (x1 : Int32) : gM l yX10_plans wsX10_plans rmX10_plans D (gT cI cB cZ cM cJ cK) (wX10_plans cI cB cZ cM cJ cK  a_t a_t_text a_t_corners a_t_streets a_t_ends a_t_time a_t_leaders a_t_home a_t_feet a_t_far a_t_now a_t_isKept a_t_tried a_t_row a_t_who a_t_then a_t_best a_t_seenAs a_t_seenAt a_t_plan t_trace t_typed t_at t_start t_sort t_value t_fault t_rowLong t_homes t_bestValue t_seen t_planMany t_leaders t_plan) [.ref a_t, .int x1] (fX10_plans N t_planMany t_leaders t_plan x1) (fun _u : Int32 × Int32 × (Nat → Int32) => some (.int _u.1)) (fun _u : Int32 × Int32 × (Nat → Int32) => (wX10_plans cI cB cZ cM cJ cK  a_t a_t_text a_t_corners a_t_streets a_t_ends a_t_time a_t_leaders a_t_home a_t_feet a_t_far a_t_now a_t_isKept a_t_tried a_t_row a_t_who a_t_then a_t_best a_t_seenAs a_t_seenAt a_t_plan t_trace t_typed t_at t_start t_sort t_value t_fault t_rowLong t_homes t_bestValue t_seen _u.2.1 t_leaders _u.2.2)) := by
  refine g_start (cc := cX10_plans) (maxL := 2) (ret := (some .int)) (by decide) rfl (Nat.le_of_ble_eq_true rfl) ?_
  intro F hf hF p e s m below meth c A ls S hK hA Wd hr hlk hnm hl
  refine lv_aload_n S.1 S.2.1 dX10_plans_0 rfl (lv_at hl 0 rfl) ?_
  refine lv_iload_n S.1 S.2.1 dX10_plans_1 rfl (lv_at hl 1 rfl) ?_
  obtain ⟨u1, hu1, hf⟩ := g_bind hF hf
  refine g_callV (ws' := (wX10_plans cI cB cZ cM cJ cK  a_t a_t_text a_t_corners a_t_streets a_t_ends a_t_time a_t_leaders a_t_home a_t_feet a_t_far a_t_now a_t_isKept a_t_tried a_t_row a_t_who a_t_then a_t_best a_t_seenAs a_t_seenAt a_t_plan t_trace t_typed t_at t_start t_sort t_value t_fault t_rowLong t_homes t_bestValue t_seen t_planMany t_leaders t_plan)) (As := [.int x1]) (rest := []) (st1 := [.int u1]) S hK hA Wd (c_X10_isLeader l D N cI cB cZ cM cJ cK a_t a_t_text a_t_corners a_t_streets a_t_ends a_t_time a_t_leaders a_t_home a_t_feet a_t_far a_t_now a_t_isKept a_t_tried a_t_row a_t_who a_t_then a_t_best a_t_seenAs a_t_seenAt a_t_plan t_trace t_typed t_at t_start t_sort t_value t_fault t_rowLong t_homes t_bestValue t_seen t_planMany t_leaders x1) (cwV 1 S.2.2.2.2 gX10_plans_X10_isLeader rfl rfl rfl n_X10_isLeader ⟨Nat.le_of_ble_eq_true rfl, Nat.le_of_ble_eq_true rfl⟩) hu1 [0, 1] rfl rfl 0 10 rfl rfl rfl rfl rfl rfl rfl hl.1 rfl (Nat.le_of_ble_eq_true rfl) dX10_plans_2 ⟨Nat.zero_le _, Nat.zero_le _⟩ (fun H locs Wd => ?_)
  refine lv_if_ne (tgt := 10) S.1 S.2.1 dX10_plans_5 rfl (fun c2 => ?_) (fun c2 => ?_)
  · have hf := g_ifn hf c2
    refine lv_aload_n S.1 S.2.1 dX10_plans_10 rfl (lv_at hl 0 rfl) ?_
    refine g_get (a := a_t) S hK Wd iX10_plans_X10 0 rfl rfl 30 rfl rfl kX10_plans_1 rfl dX10_plans_11 ?_
    refine lv_bipush (v := 6) S.1 S.2.1 dX10_plans_14 (by decide) ?_
    refine lv_icmp_ne (tgt := 22) S.1 S.2.1 dX10_plans_16 rfl (fun c3 => ?_) (fun c3 => ?_)
    · have hf := g_ifn hf c3
      refine lv_aload_n S.1 S.2.1 dX10_plans_22 rfl (lv_at hl 0 rfl) ?_
      refine g_get (a := a_t) S hK Wd iX10_plans_X10 0 rfl rfl 29 rfl rfl kX10_plans_2 rfl dX10_plans_23 ?_
      refine lv_aload_n S.1 S.2.1 dX10_plans_26 rfl (lv_at hl 0 rfl) ?_
      refine g_get (a := a_t) S hK Wd iX10_plans_X10 0 rfl rfl 30 rfl rfl kX10_plans_1 rfl dX10_plans_27 ?_
      refine lv_iload_n S.1 S.2.1 dX10_plans_30 rfl (lv_at hl 1 rfl) ?_
      obtain ⟨h4, hf⟩ := g_gi hF hf
      refine g_iast (a := a_t_plan) (ws' := (wX10_plans cI cB cZ cM cJ cK  a_t a_t_text a_t_corners a_t_streets a_t_ends a_t_time a_t_leaders a_t_home a_t_feet a_t_far a_t_now a_t_isKept a_t_tried a_t_row a_t_who a_t_then a_t_best a_t_seenAs a_t_seenAt a_t_plan t_trace t_typed t_at t_start t_sort t_value t_fault t_rowLong t_homes t_bestValue t_seen t_planMany t_leaders (upd t_plan t_planMany.toNatClampNeg x1))) S hK Wd 2 0 rfl rfl h4 dX10_plans_31 rfl (fun H locs Wd => ?_)
      refine lv_aload_n S.1 S.2.1 dX10_plans_32 rfl (lv_at hl 0 rfl) ?_
      refine lv_dup S.1 S.2.1 dX10_plans_33 rfl ?_
      refine g_get (a := a_t) S hK Wd iX10_plans_X10 0 rfl rfl 30 rfl rfl kX10_plans_1 rfl dX10_plans_34 ?_
      refine lv_iconst (v := 1) S.1 S.2.1 dX10_plans_37 (by decide) ?_
      refine lv_iadd S.1 S.2.1 dX10_plans_38 ?_
      refine g_put (a := a_t) (ws' := (wX10_plans cI cB cZ cM cJ cK  a_t a_t_text a_t_corners a_t_streets a_t_ends a_t_time a_t_leaders a_t_home a_t_feet a_t_far a_t_now a_t_isKept a_t_tried a_t_row a_t_who a_t_then a_t_best a_t_seenAs a_t_seenAt a_t_plan t_trace t_typed t_at t_start t_sort t_value t_fault t_rowLong t_homes t_bestValue t_seen (t_planMany + (1 : Int32)) t_leaders (upd t_plan t_planMany.toNatClampNeg x1))) S hK Wd iX10_plans_X10 tyX10 tyX10_ok nmX10 0 rfl rfl 30 rfl rfl kX10_plans_1 rfl rfl rfl dX10_plans_39 rfl (fun H locs Wd => ?_)
      refine lv_aload_n S.1 S.2.1 dX10_plans_42 rfl (lv_at hl 0 rfl) ?_
      refine g_get (a := a_t) S hK Wd iX10_plans_X10 0 rfl rfl 30 rfl rfl kX10_plans_1 rfl dX10_plans_43 ?_
      exact g_iret S Wd hr hlk dX10_plans_46 ((t_planMany + (1 : Int32)), (t_planMany + (1 : Int32)), (upd t_plan t_planMany.toNatClampNeg x1)) hf rfl rfl
    · have hf := g_if hf c3
      refine lv_bipush (v := (-3)) S.1 S.2.1 dX10_plans_19 (by decide) ?_
      exact g_iret S Wd hr hlk dX10_plans_21 ((-3 : Int32), t_planMany, t_plan) hf rfl rfl
  · have hf := g_if hf c2
    refine lv_iconst (v := (-1)) S.1 S.2.1 dX10_plans_8 (by decide) ?_
    exact g_iret S Wd hr hlk dX10_plans_9 ((-1 : Int32), t_planMany, t_plan) hf rfl rfl
def wX10_drops (cI cB cZ cM cJ cK : ClassId) (a_t a_t_text a_t_corners a_t_streets a_t_ends a_t_time a_t_leaders a_t_home a_t_feet a_t_far a_t_now a_t_isKept a_t_tried a_t_row a_t_who a_t_then a_t_best a_t_seenAs a_t_seenAt a_t_plan : Nat) (t_trace : Int64) (t_typed t_at t_start t_sort t_value t_fault t_rowLong t_homes t_bestValue t_seen t_planMany : Int32) : List va_W := [[(a_t, .inr (10, [.long t_trace, .ref a_t_text, .int t_typed, .ref a_t_corners, .ref a_t_streets, .ref a_t_ends, .ref a_t_time, .ref a_t_leaders, .ref a_t_home, .ref a_t_feet, .int t_at, .int t_start, .int t_sort, .int t_value, .int t_fault, .ref a_t_far, .ref a_t_now, .ref a_t_isKept, .ref a_t_tried, .ref a_t_row, .int t_rowLong, .ref a_t_who, .ref a_t_then, .int t_homes, .ref a_t_best, .int t_bestValue, .ref a_t_seenAs, .ref a_t_seenAt, .int t_seen, .ref a_t_plan, .int t_planMany]))]]
def rmX10_drops : Room := { frames := 0, cells := 0, slots := 0, locals := 0 }
theorem kX10_drops_1 : Cond.fieldLink RX10 119 "FeastMarchModel" "planMany" "I" ∈ wsX10_drops := List.mem_of_getElem? (i := 1) rfl
theorem iX10_drops_X10 : ∀ w ∈ wsX100, w ∈ wsX10_drops := fun _ h => List.mem_cons_of_mem _ (List.mem_append_right _ h)
theorem n_X10_drops : yX10_drops.cls = RX10 ∧ yX10_drops.cls ≠ "java/lang/invoke/MethodHandle" ∧ yX10_drops.cls ≠ "java/lang/invoke/VarHandle" ∧ (parseMethodDescriptor yX10_drops.desc).map (fun d => d.parameters.length) = some 0 := by decide +kernel
set_option maxHeartbeats 4000000 in
set_option maxRecDepth 100000 in
theorem c_X10_drops (l : Launch) (D : va_G) (N : Nat) (cI cB cZ cM cJ cK : ClassId) (a_t a_t_text a_t_corners a_t_streets a_t_ends a_t_time a_t_leaders a_t_home a_t_feet a_t_far a_t_now a_t_isKept a_t_tried a_t_row a_t_who a_t_then a_t_best a_t_seenAs a_t_seenAt a_t_plan : Nat) (t_trace : Int64) (t_typed t_at t_start t_sort t_value t_fault t_rowLong t_homes t_bestValue t_seen t_planMany : Int32) : gM l yX10_drops wsX10_drops rmX10_drops D (gT cI cB cZ cM cJ cK) (wX10_drops cI cB cZ cM cJ cK  a_t a_t_text a_t_corners a_t_streets a_t_ends a_t_time a_t_leaders a_t_home a_t_feet a_t_far a_t_now a_t_isKept a_t_tried a_t_row a_t_who a_t_then a_t_best a_t_seenAs a_t_seenAt a_t_plan t_trace t_typed t_at t_start t_sort t_value t_fault t_rowLong t_homes t_bestValue t_seen t_planMany) [.ref a_t] (fX10_drops N t_planMany) (fun _u : Int32 × Int32 => some (.int _u.1)) (fun _u : Int32 × Int32 => (wX10_drops cI cB cZ cM cJ cK  a_t a_t_text a_t_corners a_t_streets a_t_ends a_t_time a_t_leaders a_t_home a_t_feet a_t_far a_t_now a_t_isKept a_t_tried a_t_row a_t_who a_t_then a_t_best a_t_seenAs a_t_seenAt a_t_plan t_trace t_typed t_at t_start t_sort t_value t_fault t_rowLong t_homes t_bestValue t_seen _u.2)) := by
  refine g_start (cc := cX10_drops) (maxL := 2) (ret := (some .int)) (by decide) rfl (Nat.le_of_ble_eq_true rfl) ?_
  intro F hf hF p e s m below meth c A ls S hK hA Wd hr hlk hnm hl
  refine lv_aload_n S.1 S.2.1 dX10_drops_0 rfl (lv_at hl 0 rfl) ?_
  refine g_get (a := a_t) S hK Wd iX10_drops_X10 0 rfl rfl 30 rfl rfl kX10_drops_1 rfl dX10_drops_1 ?_
  refine lv_istore_n (lv' := [(1, .int t_planMany), (0, .ref a_t)]) S.1 S.2.1 dX10_drops_4 rfl hl (by decide) rfl (fun ls hl => ?_)
  refine lv_aload_n S.1 S.2.1 dX10_drops_5 rfl (lv_at hl 1 rfl) ?_
  refine lv_iconst (v := 0) S.1 S.2.1 dX10_drops_6 (by decide) ?_
  refine g_put (a := a_t) (ws' := (wX10_drops cI cB cZ cM cJ cK  a_t a_t_text a_t_corners a_t_streets a_t_ends a_t_time a_t_leaders a_t_home a_t_feet a_t_far a_t_now a_t_isKept a_t_tried a_t_row a_t_who a_t_then a_t_best a_t_seenAs a_t_seenAt a_t_plan t_trace t_typed t_at t_start t_sort t_value t_fault t_rowLong t_homes t_bestValue t_seen (0 : Int32))) S hK Wd iX10_drops_X10 tyX10 tyX10_ok nmX10 0 rfl rfl 30 rfl rfl kX10_drops_1 rfl rfl rfl dX10_drops_7 rfl (fun H locs Wd => ?_)
  refine lv_iload_n S.1 S.2.1 dX10_drops_10 rfl (lv_at hl 0 rfl) ?_
  exact g_iret S Wd hr hlk dX10_drops_11 (t_planMany, (0 : Int32)) hf rfl rfl
def wX10_goPlan (cI cB cZ cM cJ cK : ClassId) (a_t a_t_text a_t_corners a_t_streets a_t_ends a_t_time a_t_leaders a_t_home a_t_feet a_t_far a_t_now a_t_isKept a_t_tried a_t_row a_t_who a_t_then a_t_best a_t_seenAs a_t_seenAt a_t_plan : Nat) (t_trace : Int64) (t_typed t_at t_start t_sort t_value t_fault t_rowLong t_homes t_bestValue t_seen t_planMany : Int32) (t_streets t_ends t_time t_home t_feet t_far t_now t_tried t_plan : Nat → Int32) : List va_W := [[(a_t, .inr (10, [.long t_trace, .ref a_t_text, .int t_typed, .ref a_t_corners, .ref a_t_streets, .ref a_t_ends, .ref a_t_time, .ref a_t_leaders, .ref a_t_home, .ref a_t_feet, .int t_at, .int t_start, .int t_sort, .int t_value, .int t_fault, .ref a_t_far, .ref a_t_now, .ref a_t_isKept, .ref a_t_tried, .ref a_t_row, .int t_rowLong, .ref a_t_who, .ref a_t_then, .int t_homes, .ref a_t_best, .int t_bestValue, .ref a_t_seenAs, .ref a_t_seenAt, .int t_seen, .ref a_t_plan, .int t_planMany]))], [(a_t_streets, .inl (cI, 2, .inl t_streets))], [(a_t_ends, .inl (cI, 48, .inl t_ends))], [(a_t_time, .inl (cI, 24, .inl t_time))], [(a_t_home, .inl (cI, 12, .inl t_home))], [(a_t_feet, .inl (cI, 12, .inl t_feet))], [(a_t_far, .inl (cI, 64, .inl t_far))], [(a_t_now, .inl (cI, 564, .inl t_now))], [(a_t_tried, .inl (cI, 17, .inl t_tried))], [(a_t_plan, .inl (cI, 6, .inl t_plan))]]
def rmX10_goPlan : Room := { frames := 2, cells := 0, slots := 0, locals := 54 }
theorem kX10_goPlan_1 : Cond.fieldLink RX10 38 "FeastMarchModel" "now" "[I" ∈ wsX10_goPlan := List.mem_of_getElem? (i := 1) rfl
theorem kX10_goPlan_2 : Cond.fieldLink RX10 119 "FeastMarchModel" "planMany" "I" ∈ wsX10_goPlan := List.mem_of_getElem? (i := 2) rfl
theorem kX10_goPlan_3 : Cond.fieldLink RX10 66 "FeastMarchModel" "plan" "[I" ∈ wsX10_goPlan := List.mem_of_getElem? (i := 3) rfl
theorem kX10_goPlan_4 : Cond.fieldLink RX10 45 "FeastMarchModel" "tried" "[I" ∈ wsX10_goPlan := List.mem_of_getElem? (i := 4) rfl
theorem iX10_goPlan_X10 : ∀ w ∈ wsX100, w ∈ wsX10_goPlan := fun _ h => List.mem_cons_of_mem _ (List.mem_append_right _ h)
theorem n_X10_goPlan : yX10_goPlan.cls = RX10 ∧ yX10_goPlan.cls ≠ "java/lang/invoke/MethodHandle" ∧ yX10_goPlan.cls ≠ "java/lang/invoke/VarHandle" ∧ (parseMethodDescriptor yX10_goPlan.desc).map (fun d => d.parameters.length) = some 1 := by decide +kernel
set_option maxHeartbeats 4000000 in
set_option maxRecDepth 100000 in
theorem c_X10_goPlan (l : Launch) (D : va_G) (N : Nat) (cI cB cZ cM cJ cK : ClassId) (a_t a_t_text a_t_corners a_t_streets a_t_ends a_t_time a_t_leaders a_t_home a_t_feet a_t_far a_t_now a_t_isKept a_t_tried a_t_row a_t_who a_t_then a_t_best a_t_seenAs a_t_seenAt a_t_plan : Nat) (t_trace : Int64) (t_typed t_at t_start t_sort t_value t_fault t_rowLong t_homes t_bestValue t_seen t_planMany : Int32) (t_streets t_ends t_time t_home t_feet t_far t_now t_tried t_plan : Nat → Int32) (x1 : Int32) : gM l yX10_goPlan wsX10_goPlan rmX10_goPlan D (gT cI cB cZ cM cJ cK) (wX10_goPlan cI cB cZ cM cJ cK  a_t a_t_text a_t_corners a_t_streets a_t_ends a_t_time a_t_leaders a_t_home a_t_feet a_t_far a_t_now a_t_isKept a_t_tried a_t_row a_t_who a_t_then a_t_best a_t_seenAs a_t_seenAt a_t_plan t_trace t_typed t_at t_start t_sort t_value t_fault t_rowLong t_homes t_bestValue t_seen t_planMany t_streets t_ends t_time t_home t_feet t_far t_now t_tried t_plan) [.ref a_t, .int x1] (fX10_goPlan N t_planMany t_streets t_ends t_time t_home t_feet t_far t_now t_tried t_plan x1) (fun _u : Int32 × (Nat → Int32) => some (.int _u.1)) (fun _u : Int32 × (Nat → Int32) => (wX10_goPlan cI cB cZ cM cJ cK  a_t a_t_text a_t_corners a_t_streets a_t_ends a_t_time a_t_leaders a_t_home a_t_feet a_t_far a_t_now a_t_isKept a_t_tried a_t_row a_t_who a_t_then a_t_best a_t_seenAs a_t_seenAt a_t_plan t_trace t_typed t_at t_start t_sort t_value t_fault t_rowLong t_homes t_bestValue t_seen t_planMany t_streets t_ends t_time t_home t_feet t_far t_now _u.2 t_plan)) := by
  refine g_start (cc := cX10_goPlan) (maxL := 6) (ret := (some .int)) (by decide) rfl (Nat.le_of_ble_eq_true rfl) ?_
  intro F hf hF p e s m below meth c A ls S hK hA Wd hr hlk hnm hl
  have b72 : ∀ (K16 : (Nat → Int32) → Int32 → Int32 → Int32 → Option (Int32 × (Nat → Int32))) (hK16 : ∀ (t_tried : Nat → Int32) (x2 x3 x4 : Int32) (H1 : Heap) (locs1 : List Loc) (ls1 : Array Slot), gw D A s.heap (wX10_goPlan cI cB cZ cM cJ cK  a_t a_t_text a_t_corners a_t_streets a_t_ends a_t_time a_t_leaders a_t_home a_t_feet a_t_far a_t_now a_t_isKept a_t_tried a_t_row a_t_who a_t_then a_t_best a_t_seenAs a_t_seenAt a_t_plan t_trace t_typed t_at t_start t_sort t_value t_fault t_rowLong t_homes t_bestValue t_seen t_planMany t_streets t_ends t_time t_home t_feet t_far t_now t_tried t_plan) H1 locs1 → lv_has ls1 6 [(0, .ref a_t), (1, .int x1), (2, .int x2), (3, .int x3), (4, .int x4)] → F = K16 t_tried x2 x3 x4 → W p l e rmX10_goPlan s m [.ref a_t, .int x1].toArray below meth c H1 locs1 0 0 (MQ below (gQ F (fun _u : Int32 × (Nat → Int32) => some (.int _u.1)) (fun _u : Int32 × (Nat → Int32) => (wX10_goPlan cI cB cZ cM cJ cK  a_t a_t_text a_t_corners a_t_streets a_t_ends a_t_time a_t_leaders a_t_home a_t_feet a_t_far a_t_now a_t_isKept a_t_tried a_t_row a_t_who a_t_then a_t_best a_t_seenAs a_t_seenAt a_t_plan t_trace t_typed t_at t_start t_sort t_value t_fault t_rowLong t_homes t_bestValue t_seen t_planMany t_streets t_ends t_time t_home t_feet t_far t_now _u.2 t_plan)) D A) [.ref a_t, .int x1].toArray s 0 0 A) (F0 m 16 ls1 [])) , ∀ (t_tried : Nat → Int32) (x2 x3 x4 : Int32) (H1 : Heap) (locs1 : List Loc) (ls1 : Array Slot), gw D A s.heap (wX10_goPlan cI cB cZ cM cJ cK  a_t a_t_text a_t_corners a_t_streets a_t_ends a_t_time a_t_leaders a_t_home a_t_feet a_t_far a_t_now a_t_isKept a_t_tried a_t_row a_t_who a_t_then a_t_best a_t_seenAs a_t_seenAt a_t_plan t_trace t_typed t_at t_start t_sort t_value t_fault t_rowLong t_homes t_bestValue t_seen t_planMany t_streets t_ends t_time t_home t_feet t_far t_now t_tried t_plan) H1 locs1 → lv_has ls1 6 [(0, .ref a_t), (1, .int x1), (2, .int x2), (3, .int x3), (4, .int x4)] → F = fX10_goPlan_b72 N t_planMany t_streets t_ends t_time t_home t_feet t_far t_now t_plan x1 K16 t_tried x2 x3 x4 → W p l e rmX10_goPlan s m [.ref a_t, .int x1].toArray below meth c H1 locs1 0 0 (MQ below (gQ F (fun _u : Int32 × (Nat → Int32) => some (.int _u.1)) (fun _u : Int32 × (Nat → Int32) => (wX10_goPlan cI cB cZ cM cJ cK  a_t a_t_text a_t_corners a_t_streets a_t_ends a_t_time a_t_leaders a_t_home a_t_feet a_t_far a_t_now a_t_isKept a_t_tried a_t_row a_t_who a_t_then a_t_best a_t_seenAs a_t_seenAt a_t_plan t_trace t_typed t_at t_start t_sort t_value t_fault t_rowLong t_homes t_bestValue t_seen t_planMany t_streets t_ends t_time t_home t_feet t_far t_now _u.2 t_plan)) D A) [.ref a_t, .int x1].toArray s 0 0 A) (F0 m 72 ls1 []) := by
    intro K16 hK16 t_tried x2 x3 x4 H locs ls Wd hl hf
    refine lv_iinc (v := (x4 + (1 : Int32))) (lv' := [(4, .int (x4 + (1 : Int32))), (0, .ref a_t), (1, .int x1), (2, .int x2), (3, .int x3)]) S.1 S.2.1 dX10_goPlan_72 hl (k := 4) rfl rfl (by decide) rfl (fun ls hl => ?_)
    refine lv_goto (tgt := 16) S.1 S.2.1 dX10_goPlan_75 rfl ?_
    exact hK16 t_tried x2 x3 (x4 + (1 : Int32)) _ _ _ Wd (lv_sub hl [1, 2, 3, 4, 0] rfl) hf
  have b69 : ∀ (K16 : (Nat → Int32) → Int32 → Int32 → Int32 → Option (Int32 × (Nat → Int32))) (hK16 : ∀ (t_tried : Nat → Int32) (x2 x3 x4 : Int32) (H1 : Heap) (locs1 : List Loc) (ls1 : Array Slot), gw D A s.heap (wX10_goPlan cI cB cZ cM cJ cK  a_t a_t_text a_t_corners a_t_streets a_t_ends a_t_time a_t_leaders a_t_home a_t_feet a_t_far a_t_now a_t_isKept a_t_tried a_t_row a_t_who a_t_then a_t_best a_t_seenAs a_t_seenAt a_t_plan t_trace t_typed t_at t_start t_sort t_value t_fault t_rowLong t_homes t_bestValue t_seen t_planMany t_streets t_ends t_time t_home t_feet t_far t_now t_tried t_plan) H1 locs1 → lv_has ls1 6 [(0, .ref a_t), (1, .int x1), (2, .int x2), (3, .int x3), (4, .int x4)] → F = K16 t_tried x2 x3 x4 → W p l e rmX10_goPlan s m [.ref a_t, .int x1].toArray below meth c H1 locs1 0 0 (MQ below (gQ F (fun _u : Int32 × (Nat → Int32) => some (.int _u.1)) (fun _u : Int32 × (Nat → Int32) => (wX10_goPlan cI cB cZ cM cJ cK  a_t a_t_text a_t_corners a_t_streets a_t_ends a_t_time a_t_leaders a_t_home a_t_feet a_t_far a_t_now a_t_isKept a_t_tried a_t_row a_t_who a_t_then a_t_best a_t_seenAs a_t_seenAt a_t_plan t_trace t_typed t_at t_start t_sort t_value t_fault t_rowLong t_homes t_bestValue t_seen t_planMany t_streets t_ends t_time t_home t_feet t_far t_now _u.2 t_plan)) D A) [.ref a_t, .int x1].toArray s 0 0 A) (F0 m 16 ls1 [])) , ∀ (t_tried : Nat → Int32) (x2 x3 x4 : Int32) (H1 : Heap) (locs1 : List Loc) (ls1 : Array Slot), gw D A s.heap (wX10_goPlan cI cB cZ cM cJ cK  a_t a_t_text a_t_corners a_t_streets a_t_ends a_t_time a_t_leaders a_t_home a_t_feet a_t_far a_t_now a_t_isKept a_t_tried a_t_row a_t_who a_t_then a_t_best a_t_seenAs a_t_seenAt a_t_plan t_trace t_typed t_at t_start t_sort t_value t_fault t_rowLong t_homes t_bestValue t_seen t_planMany t_streets t_ends t_time t_home t_feet t_far t_now t_tried t_plan) H1 locs1 → lv_has ls1 6 [(0, .ref a_t), (1, .int x1), (2, .int x2), (3, .int x3), (4, .int x4)] → F = fX10_goPlan_b69 N t_planMany t_streets t_ends t_time t_home t_feet t_far t_now t_plan x1 K16 t_tried x2 x3 x4 → W p l e rmX10_goPlan s m [.ref a_t, .int x1].toArray below meth c H1 locs1 0 0 (MQ below (gQ F (fun _u : Int32 × (Nat → Int32) => some (.int _u.1)) (fun _u : Int32 × (Nat → Int32) => (wX10_goPlan cI cB cZ cM cJ cK  a_t a_t_text a_t_corners a_t_streets a_t_ends a_t_time a_t_leaders a_t_home a_t_feet a_t_far a_t_now a_t_isKept a_t_tried a_t_row a_t_who a_t_then a_t_best a_t_seenAs a_t_seenAt a_t_plan t_trace t_typed t_at t_start t_sort t_value t_fault t_rowLong t_homes t_bestValue t_seen t_planMany t_streets t_ends t_time t_home t_feet t_far t_now _u.2 t_plan)) D A) [.ref a_t, .int x1].toArray s 0 0 A) (F0 m 69 ls1 []) := by
    intro K16 hK16 t_tried x2 x3 x4 H locs ls Wd hl hf
    refine lv_iinc (v := (x2 + (1 : Int32))) (lv' := [(2, .int (x2 + (1 : Int32))), (0, .ref a_t), (1, .int x1), (3, .int x3), (4, .int x4)]) S.1 S.2.1 dX10_goPlan_69 hl (k := 2) rfl rfl (by decide) rfl (fun ls hl => ?_)
    exact b72 K16 hK16 t_tried (x2 + (1 : Int32)) x3 x4 _ _ _ Wd (lv_sub hl [1, 2, 0, 3, 4] rfl) hf
  have b16 : ∀ (n : Nat), ∀ (t_tried : Nat → Int32) (x2 x3 x4 : Int32) (H1 : Heap) (locs1 : List Loc) (ls1 : Array Slot), gw D A s.heap (wX10_goPlan cI cB cZ cM cJ cK  a_t a_t_text a_t_corners a_t_streets a_t_ends a_t_time a_t_leaders a_t_home a_t_feet a_t_far a_t_now a_t_isKept a_t_tried a_t_row a_t_who a_t_then a_t_best a_t_seenAs a_t_seenAt a_t_plan t_trace t_typed t_at t_start t_sort t_value t_fault t_rowLong t_homes t_bestValue t_seen t_planMany t_streets t_ends t_time t_home t_feet t_far t_now t_tried t_plan) H1 locs1 → lv_has ls1 6 [(0, .ref a_t), (1, .int x1), (2, .int x2), (3, .int x3), (4, .int x4)] → F = fX10_goPlan_b16 N t_planMany t_streets t_ends t_time t_home t_feet t_far t_now t_plan x1  n t_tried x2 x3 x4 → W p l e rmX10_goPlan s m [.ref a_t, .int x1].toArray below meth c H1 locs1 0 0 (MQ below (gQ F (fun _u : Int32 × (Nat → Int32) => some (.int _u.1)) (fun _u : Int32 × (Nat → Int32) => (wX10_goPlan cI cB cZ cM cJ cK  a_t a_t_text a_t_corners a_t_streets a_t_ends a_t_time a_t_leaders a_t_home a_t_feet a_t_far a_t_now a_t_isKept a_t_tried a_t_row a_t_who a_t_then a_t_best a_t_seenAs a_t_seenAt a_t_plan t_trace t_typed t_at t_start t_sort t_value t_fault t_rowLong t_homes t_bestValue t_seen t_planMany t_streets t_ends t_time t_home t_feet t_far t_now _u.2 t_plan)) D A) [.ref a_t, .int x1].toArray s 0 0 A) (F0 m 16 ls1 []) := by
    intro  n
    induction n with
    | zero => intro t_tried x2 x3 x4 H locs ls Wd hl hf; exact absurd hf hF
    | succ n ih =>
      intro t_tried x2 x3 x4 H locs ls Wd hl hf
      refine lv_iload S.1 S.2.1 dX10_goPlan_16 (lv_at hl 4 rfl) ?_
      refine lv_aload_n S.1 S.2.1 dX10_goPlan_18 rfl (lv_at hl 0 rfl) ?_
      refine g_get (a := a_t) S hK Wd iX10_goPlan_X10 0 rfl rfl 30 rfl rfl kX10_goPlan_2 rfl dX10_goPlan_19 ?_
      refine lv_icmp_ge (tgt := 78) S.1 S.2.1 dX10_goPlan_22 rfl (fun c2 => ?_) (fun c2 => ?_)
      · have hf := g_if hf c2
        refine lv_iload_n S.1 S.2.1 dX10_goPlan_78 rfl (lv_at hl 2 rfl) ?_
        exact g_iret S Wd hr hlk dX10_goPlan_79 (x2, t_tried) hf rfl rfl
      · have hf := g_ifn hf c2
        refine lv_aload_n S.1 S.2.1 dX10_goPlan_25 rfl (lv_at hl 0 rfl) ?_
        refine g_get (a := a_t) S hK Wd iX10_goPlan_X10 0 rfl rfl 29 rfl rfl kX10_goPlan_3 rfl dX10_goPlan_26 ?_
        refine lv_iload S.1 S.2.1 dX10_goPlan_29 (lv_at hl 4 rfl) ?_
        obtain ⟨h3, hf⟩ := g_gi hF hf
        refine g_iald (a := a_t_plan) S hK Wd 9 0 rfl rfl h3 dX10_goPlan_31 ?_
        refine lv_istore (lv' := [(5, .int (t_plan x4.toNatClampNeg)), (0, .ref a_t), (1, .int x1), (2, .int x2), (3, .int x3), (4, .int x4)]) S.1 S.2.1 dX10_goPlan_32 hl (by decide) rfl (fun ls hl => ?_)
        refine lv_iload_n S.1 S.2.1 dX10_goPlan_34 rfl (lv_at hl 4 rfl) ?_
        refine lv_iload S.1 S.2.1 dX10_goPlan_35 (lv_at hl 0 rfl) ?_
        refine lv_ishr S.1 S.2.1 dX10_goPlan_37 ?_
        refine lv_iconst (v := 1) S.1 S.2.1 dX10_goPlan_38 (by decide) ?_
        refine lv_iand S.1 S.2.1 dX10_goPlan_39 ?_
        refine lv_if_ne (tgt := 72) S.1 S.2.1 dX10_goPlan_40 rfl (fun c4 => ?_) (fun c4 => ?_)
        · have hf := g_ifn hf c4
          exact b72 (fun t_tried x2 x3 x4 => fX10_goPlan_b16 N t_planMany t_streets t_ends t_time t_home t_feet t_far t_now t_plan x1 n t_tried x2 x3 x4) ih t_tried x2 x3 x4 _ _ _ Wd (lv_sub hl [1, 2, 3, 4, 5] rfl) hf
        · have hf := g_if hf c4
          refine lv_iload_n S.1 S.2.1 dX10_goPlan_43 rfl (lv_at hl 4 rfl) ?_
          refine lv_iconst (v := 1) S.1 S.2.1 dX10_goPlan_44 (by decide) ?_
          refine lv_iload S.1 S.2.1 dX10_goPlan_45 (lv_at hl 0 rfl) ?_
          refine lv_ishl S.1 S.2.1 dX10_goPlan_47 ?_
          refine lv_ior S.1 S.2.1 dX10_goPlan_48 ?_
          refine lv_istore_n (lv' := [(3, .int (x3 ||| ((1 : Int32) <<< ((t_plan x4.toNatClampNeg) &&& 31)))), (5, .int (t_plan x4.toNatClampNeg)), (0, .ref a_t), (1, .int x1), (2, .int x2), (4, .int x4)]) S.1 S.2.1 dX10_goPlan_49 rfl hl (by decide) rfl (fun ls hl => ?_)
          refine lv_iload_n S.1 S.2.1 dX10_goPlan_50 rfl (lv_at hl 3 rfl) ?_
          refine lv_iload_n S.1 S.2.1 dX10_goPlan_51 rfl (lv_at hl 4 rfl) ?_
          refine lv_ishr S.1 S.2.1 dX10_goPlan_52 ?_
          refine lv_iconst (v := 1) S.1 S.2.1 dX10_goPlan_53 (by decide) ?_
          refine lv_iand S.1 S.2.1 dX10_goPlan_54 ?_
          refine lv_if_ne (tgt := 69) S.1 S.2.1 dX10_goPlan_55 rfl (fun c5 => ?_) (fun c5 => ?_)
          · have hf := g_ifn hf c5
            exact b69 (fun t_tried x2 x3 x4 => fX10_goPlan_b16 N t_planMany t_streets t_ends t_time t_home t_feet t_far t_now t_plan x1 n t_tried x2 x3 x4) ih t_tried x2 (x3 ||| ((1 : Int32) <<< ((t_plan x4.toNatClampNeg) &&& 31))) x4 _ _ _ Wd (lv_sub hl [2, 3, 4, 0, 5] rfl) hf
          · have hf := g_if hf c5
            refine lv_aload_n S.1 S.2.1 dX10_goPlan_58 rfl (lv_at hl 2 rfl) ?_
            refine lv_aload_n S.1 S.2.1 dX10_goPlan_59 rfl (lv_at hl 2 rfl) ?_
            refine g_get (a := a_t) S hK Wd iX10_goPlan_X10 0 rfl rfl 18 rfl rfl kX10_goPlan_4 rfl dX10_goPlan_60 ?_
            refine lv_iload S.1 S.2.1 dX10_goPlan_63 (lv_at hl 1 rfl) ?_
            obtain ⟨u6, hu6, hf⟩ := g_bind hF hf
            refine g_callV (ws' := (wX10_goPlan cI cB cZ cM cJ cK  a_t a_t_text a_t_corners a_t_streets a_t_ends a_t_time a_t_leaders a_t_home a_t_feet a_t_far a_t_now a_t_isKept a_t_tried a_t_row a_t_who a_t_then a_t_best a_t_seenAs a_t_seenAt a_t_plan t_trace t_typed t_at t_start t_sort t_value t_fault t_rowLong t_homes t_bestValue t_seen t_planMany t_streets t_ends t_time t_home t_feet t_far t_now u6.2 t_plan)) (As := [.ref a_t_tried, .int (t_plan x4.toNatClampNeg)]) (rest := []) (st1 := [.int u6.1]) S hK hA Wd (c_X10_lead l D N cI cB cZ cM cJ cK 17 a_t a_t_text a_t_corners a_t_streets a_t_ends a_t_time a_t_leaders a_t_home a_t_feet a_t_far a_t_now a_t_isKept a_t_tried a_t_row a_t_who a_t_then a_t_best a_t_seenAs a_t_seenAt a_t_plan a_t_tried t_trace t_typed t_at t_start t_sort t_value t_fault t_rowLong t_homes t_bestValue t_seen t_planMany t_streets t_ends t_time t_home t_feet t_far t_tried (t_plan x4.toNatClampNeg)) (cwV 2 S.2.2.2.2 gX10_goPlan_X10_lead rfl rfl rfl n_X10_lead ⟨Nat.le_of_ble_eq_true rfl, Nat.le_of_ble_eq_true rfl⟩) hu6 [0, 1, 2, 3, 4, 5, 6, 8] rfl rfl 0 10 rfl rfl rfl rfl rfl rfl rfl hl.1 rfl (Nat.le_of_ble_eq_true rfl) dX10_goPlan_65 ⟨Nat.zero_le _, Nat.zero_le _⟩ (fun H locs Wd => ?_)
            refine lv_pop S.1 S.2.1 dX10_goPlan_68 rfl ?_
            exact b69 (fun t_tried x2 x3 x4 => fX10_goPlan_b16 N t_planMany t_streets t_ends t_time t_home t_feet t_far t_now t_plan x1 n t_tried x2 x3 x4) ih u6.2 x2 (x3 ||| ((1 : Int32) <<< ((t_plan x4.toNatClampNeg) &&& 31))) x4 _ _ _ Wd (lv_sub hl [2, 3, 4, 0, 5] rfl) hf
  refine lv_aload_n S.1 S.2.1 dX10_goPlan_0 rfl (lv_at hl 0 rfl) ?_
  obtain ⟨u1, hu1, hf⟩ := g_bind hF hf
  refine g_callV (ws' := (wX10_goPlan cI cB cZ cM cJ cK  a_t a_t_text a_t_corners a_t_streets a_t_ends a_t_time a_t_leaders a_t_home a_t_feet a_t_far a_t_now a_t_isKept a_t_tried a_t_row a_t_who a_t_then a_t_best a_t_seenAs a_t_seenAt a_t_plan t_trace t_typed t_at t_start t_sort t_value t_fault t_rowLong t_homes t_bestValue t_seen t_planMany t_streets t_ends t_time t_home t_feet t_far t_now u1 t_plan)) (As := []) (rest := []) (st1 := []) S hK hA Wd (c_X10_take l D N cI cB cZ cM cJ cK a_t a_t_text a_t_corners a_t_streets a_t_ends a_t_time a_t_leaders a_t_home a_t_feet a_t_far a_t_now a_t_isKept a_t_tried a_t_row a_t_who a_t_then a_t_best a_t_seenAs a_t_seenAt a_t_plan t_trace t_typed t_at t_start t_sort t_value t_fault t_rowLong t_homes t_bestValue t_seen t_planMany t_now t_tried) (cwV 0 S.2.2.2.2 gX10_goPlan_X10_take rfl rfl rfl n_X10_take ⟨Nat.le_of_ble_eq_true rfl, Nat.le_of_ble_eq_true rfl⟩) hu1 [0, 7, 8] rfl rfl 0 10 rfl rfl rfl rfl rfl rfl rfl hl.1 rfl (Nat.le_of_ble_eq_true rfl) dX10_goPlan_1 ⟨Nat.zero_le _, Nat.zero_le _⟩ (fun H locs Wd => ?_)
  refine lv_iconst (v := 0) S.1 S.2.1 dX10_goPlan_4 (by decide) ?_
  refine lv_istore_n (lv' := [(2, .int (0 : Int32)), (0, .ref a_t), (1, .int x1)]) S.1 S.2.1 dX10_goPlan_5 rfl hl (by decide) rfl (fun ls hl => ?_)
  refine lv_aload_n S.1 S.2.1 dX10_goPlan_6 rfl (lv_at hl 1 rfl) ?_
  refine g_get (a := a_t) S hK Wd iX10_goPlan_X10 0 rfl rfl 16 rfl rfl kX10_goPlan_1 rfl dX10_goPlan_7 ?_
  refine lv_iconst (v := 3) S.1 S.2.1 dX10_goPlan_10 (by decide) ?_
  refine g_iald (a := a_t_now) S hK Wd 7 0 rfl rfl (show ¬ (((3 : Int32) < 0) ∨ 564 ≤ Int32.toNatClampNeg (3 : Int32)) from by decide) dX10_goPlan_11 ?_
  refine lv_istore_n (lv' := [(3, .int (t_now (3 : Int32).toNatClampNeg)), (2, .int (0 : Int32)), (0, .ref a_t), (1, .int x1)]) S.1 S.2.1 dX10_goPlan_12 rfl hl (by decide) rfl (fun ls hl => ?_)
  refine lv_iconst (v := 0) S.1 S.2.1 dX10_goPlan_13 (by decide) ?_
  refine lv_istore (lv' := [(4, .int (0 : Int32)), (3, .int (t_now (3 : Int32).toNatClampNeg)), (2, .int (0 : Int32)), (0, .ref a_t), (1, .int x1)]) S.1 S.2.1 dX10_goPlan_14 hl (by decide) rfl (fun ls hl => ?_)
  exact b16  N u1 (0 : Int32) (t_now (3 : Int32).toNatClampNeg) (0 : Int32) _ _ _ Wd (lv_sub hl [3, 4, 2, 1, 0] rfl) hf
def wX10_planned (cI cB cZ cM cJ cK : ClassId) (a_t a_t_text a_t_corners a_t_streets a_t_ends a_t_time a_t_leaders a_t_home a_t_feet a_t_far a_t_now a_t_isKept a_t_tried a_t_row a_t_who a_t_then a_t_best a_t_seenAs a_t_seenAt a_t_plan : Nat) (t_trace : Int64) (t_typed t_at t_start t_sort t_value t_fault t_rowLong t_homes t_bestValue t_seen t_planMany : Int32) (t_corners t_streets t_ends t_time t_home t_feet t_far t_now t_tried t_plan : Nat → Int32) : List va_W := [[(a_t, .inr (10, [.long t_trace, .ref a_t_text, .int t_typed, .ref a_t_corners, .ref a_t_streets, .ref a_t_ends, .ref a_t_time, .ref a_t_leaders, .ref a_t_home, .ref a_t_feet, .int t_at, .int t_start, .int t_sort, .int t_value, .int t_fault, .ref a_t_far, .ref a_t_now, .ref a_t_isKept, .ref a_t_tried, .ref a_t_row, .int t_rowLong, .ref a_t_who, .ref a_t_then, .int t_homes, .ref a_t_best, .int t_bestValue, .ref a_t_seenAs, .ref a_t_seenAt, .int t_seen, .ref a_t_plan, .int t_planMany]))], [(a_t_corners, .inl (cI, 2, .inl t_corners))], [(a_t_streets, .inl (cI, 2, .inl t_streets))], [(a_t_ends, .inl (cI, 48, .inl t_ends))], [(a_t_time, .inl (cI, 24, .inl t_time))], [(a_t_home, .inl (cI, 12, .inl t_home))], [(a_t_feet, .inl (cI, 12, .inl t_feet))], [(a_t_far, .inl (cI, 64, .inl t_far))], [(a_t_now, .inl (cI, 564, .inl t_now))], [(a_t_tried, .inl (cI, 17, .inl t_tried))], [(a_t_plan, .inl (cI, 6, .inl t_plan))]]
def rmX10_planned : Room := { frames := 3, cells := 0, slots := 0, locals := 79 }
theorem kX10_planned_1 : Cond.fieldLink RX10 13 "FeastMarchModel" "corners" "[I" ∈ wsX10_planned := List.mem_of_getElem? (i := 1) rfl
theorem kX10_planned_2 : Cond.fieldLink RX10 45 "FeastMarchModel" "tried" "[I" ∈ wsX10_planned := List.mem_of_getElem? (i := 2) rfl
theorem kX10_planned_3 : Cond.fieldLink RX10 38 "FeastMarchModel" "now" "[I" ∈ wsX10_planned := List.mem_of_getElem? (i := 3) rfl
theorem iX10_planned_X10 : ∀ w ∈ wsX100, w ∈ wsX10_planned := fun _ h => List.mem_cons_of_mem _ (List.mem_append_right _ h)
theorem n_X10_planned : yX10_planned.cls = RX10 ∧ yX10_planned.cls ≠ "java/lang/invoke/MethodHandle" ∧ yX10_planned.cls ≠ "java/lang/invoke/VarHandle" ∧ (parseMethodDescriptor yX10_planned.desc).map (fun d => d.parameters.length) = some 1 := by decide +kernel
set_option maxHeartbeats 4000000 in
set_option maxRecDepth 100000 in
theorem c_X10_planned (l : Launch) (D : va_G) (N : Nat) (cI cB cZ cM cJ cK : ClassId) (a_t a_t_text a_t_corners a_t_streets a_t_ends a_t_time a_t_leaders a_t_home a_t_feet a_t_far a_t_now a_t_isKept a_t_tried a_t_row a_t_who a_t_then a_t_best a_t_seenAs a_t_seenAt a_t_plan : Nat) (t_trace : Int64) (t_typed t_at t_start t_sort t_value t_fault t_rowLong t_homes t_bestValue t_seen t_planMany : Int32) (t_corners t_streets t_ends t_time t_home t_feet t_far t_now t_tried t_plan : Nat → Int32) (x1 : Int32) : gM l yX10_planned wsX10_planned rmX10_planned D (gT cI cB cZ cM cJ cK) (wX10_planned cI cB cZ cM cJ cK  a_t a_t_text a_t_corners a_t_streets a_t_ends a_t_time a_t_leaders a_t_home a_t_feet a_t_far a_t_now a_t_isKept a_t_tried a_t_row a_t_who a_t_then a_t_best a_t_seenAs a_t_seenAt a_t_plan t_trace t_typed t_at t_start t_sort t_value t_fault t_rowLong t_homes t_bestValue t_seen t_planMany t_corners t_streets t_ends t_time t_home t_feet t_far t_now t_tried t_plan) [.ref a_t, .int x1] (fX10_planned N t_planMany t_corners t_streets t_ends t_time t_home t_feet t_far t_now t_tried t_plan x1) (fun _u : Int32 × (Nat → Int32) => some (.int _u.1)) (fun _u : Int32 × (Nat → Int32) => (wX10_planned cI cB cZ cM cJ cK  a_t a_t_text a_t_corners a_t_streets a_t_ends a_t_time a_t_leaders a_t_home a_t_feet a_t_far a_t_now a_t_isKept a_t_tried a_t_row a_t_who a_t_then a_t_best a_t_seenAs a_t_seenAt a_t_plan t_trace t_typed t_at t_start t_sort t_value t_fault t_rowLong t_homes t_bestValue t_seen t_planMany t_corners t_streets t_ends t_time t_home t_feet t_far t_now _u.2 t_plan)) := by
  refine g_start (cc := cX10_planned) (maxL := 3) (ret := (some .int)) (by decide) rfl (Nat.le_of_ble_eq_true rfl) ?_
  intro F hf hF p e s m below meth c A ls S hK hA Wd hr hlk hnm hl
  refine lv_iload_n S.1 S.2.1 dX10_planned_0 rfl (lv_at hl 1 rfl) ?_
  refine lv_iconst (v := 0) S.1 S.2.1 dX10_planned_1 (by decide) ?_
  refine lv_iconst (v := 3) S.1 S.2.1 dX10_planned_2 (by decide) ?_
  obtain ⟨u1, hu1, hf⟩ := g_bind hF hf
  refine g_callS (ws' := (wX10_planned cI cB cZ cM cJ cK  a_t a_t_text a_t_corners a_t_streets a_t_ends a_t_time a_t_leaders a_t_home a_t_feet a_t_far a_t_now a_t_isKept a_t_tried a_t_row a_t_who a_t_then a_t_best a_t_seenAs a_t_seenAt a_t_plan t_trace t_typed t_at t_start t_sort t_value t_fault t_rowLong t_homes t_bestValue t_seen t_planMany t_corners t_streets t_ends t_time t_home t_feet t_far t_now t_tried t_plan)) (As := [.int x1, .int (0 : Int32), .int (3 : Int32)]) (rest := []) (st1 := [.int u1]) S hK hA Wd (c_X10_in l D N cI cB cZ cM cJ cK x1 (0 : Int32) (3 : Int32)) (va_cwS 3 S.2.2.2.2 gX10_planned_X10_in rfl rfl rfl n_X10_in ⟨Nat.le_of_ble_eq_true rfl, Nat.le_of_ble_eq_true rfl⟩) hu1 [] rfl rfl rfl rfl rfl rfl hl.1 rfl (Nat.le_of_ble_eq_true rfl) dX10_planned_3 ⟨Nat.zero_le _, Nat.zero_le _⟩ (fun H locs Wd => ?_)
  refine lv_if_ne (tgt := 11) S.1 S.2.1 dX10_planned_6 rfl (fun c2 => ?_) (fun c2 => ?_)
  · have hf := g_ifn hf c2
    refine lv_aload_n S.1 S.2.1 dX10_planned_11 rfl (lv_at hl 0 rfl) ?_
    refine lv_iconst (v := 0) S.1 S.2.1 dX10_planned_12 (by decide) ?_
    obtain ⟨u3, hu3, hf⟩ := g_bind hF hf
    refine g_callV (ws' := (wX10_planned cI cB cZ cM cJ cK  a_t a_t_text a_t_corners a_t_streets a_t_ends a_t_time a_t_leaders a_t_home a_t_feet a_t_far a_t_now a_t_isKept a_t_tried a_t_row a_t_who a_t_then a_t_best a_t_seenAs a_t_seenAt a_t_plan t_trace t_typed t_at t_start t_sort t_value t_fault t_rowLong t_homes t_bestValue t_seen t_planMany t_corners t_streets t_ends t_time t_home t_feet t_far t_now u3.2 t_plan)) (As := [.int (0 : Int32)]) (rest := []) (st1 := [.int u3.1]) S hK hA Wd (c_X10_goPlan l D N cI cB cZ cM cJ cK a_t a_t_text a_t_corners a_t_streets a_t_ends a_t_time a_t_leaders a_t_home a_t_feet a_t_far a_t_now a_t_isKept a_t_tried a_t_row a_t_who a_t_then a_t_best a_t_seenAs a_t_seenAt a_t_plan t_trace t_typed t_at t_start t_sort t_value t_fault t_rowLong t_homes t_bestValue t_seen t_planMany t_streets t_ends t_time t_home t_feet t_far t_now t_tried t_plan (0 : Int32)) (cwV 1 S.2.2.2.2 gX10_planned_X10_goPlan rfl rfl rfl n_X10_goPlan ⟨Nat.le_of_ble_eq_true rfl, Nat.le_of_ble_eq_true rfl⟩) hu3 [0, 2, 3, 4, 5, 6, 7, 8, 9, 10] rfl rfl 0 10 rfl rfl rfl rfl rfl rfl rfl hl.1 rfl (Nat.le_of_ble_eq_true rfl) dX10_planned_13 ⟨Nat.zero_le _, Nat.zero_le _⟩ (fun H locs Wd => ?_)
    refine lv_istore_n (lv' := [(2, .int u3.1), (0, .ref a_t), (1, .int x1)]) S.1 S.2.1 dX10_planned_16 rfl hl (by decide) rfl (fun ls hl => ?_)
    refine lv_iload_n S.1 S.2.1 dX10_planned_17 rfl (lv_at hl 2 rfl) ?_
    by_cases c4 : x1 = (0 : Int32)
    · have hf := g_if hf c4
      refine g_tabIn (tgt := 44) (off := 26) S c4 dX10_planned_18 (by decide) (by decide) (by decide) rfl ?_
      refine lv_aload_n S.1 S.2.1 dX10_planned_44 rfl (lv_at hl 1 rfl) ?_
      refine g_get (a := a_t) S hK Wd iX10_planned_X10 0 rfl rfl 3 rfl rfl kX10_planned_1 rfl dX10_planned_45 ?_
      refine lv_iconst (v := 0) S.1 S.2.1 dX10_planned_48 (by decide) ?_
      refine g_iald (a := a_t_corners) S hK Wd 1 0 rfl rfl (show ¬ (((0 : Int32) < 0) ∨ 2 ≤ Int32.toNatClampNeg (0 : Int32)) from by decide) dX10_planned_49 ?_
      refine lv_if_ne (tgt := 58) S.1 S.2.1 dX10_planned_50 rfl (fun c5 => ?_) (fun c5 => ?_)
      · have hf := g_ifn hf c5
        refine lv_aload_n S.1 S.2.1 dX10_planned_58 rfl (lv_at hl 1 rfl) ?_
        refine g_get (a := a_t) S hK Wd iX10_planned_X10 0 rfl rfl 18 rfl rfl kX10_planned_2 rfl dX10_planned_59 ?_
        refine lv_iconst (v := 0) S.1 S.2.1 dX10_planned_62 (by decide) ?_
        refine g_iald (a := a_t_tried) S hK Wd 9 0 rfl rfl (show ¬ (((0 : Int32) < 0) ∨ 17 ≤ Int32.toNatClampNeg (0 : Int32)) from by decide) dX10_planned_63 ?_
        exact g_iret S Wd hr hlk dX10_planned_64 ((u3.2 (0 : Int32).toNatClampNeg), u3.2) hf rfl rfl
      · have hf := g_if hf c5
        refine lv_bipush (v := (-9)) S.1 S.2.1 dX10_planned_53 (by decide) ?_
        refine lv_goto (tgt := 64) S.1 S.2.1 dX10_planned_55 rfl ?_
        exact g_iret S Wd hr hlk dX10_planned_64 ((-9 : Int32), u3.2) hf rfl rfl
    have hf := g_ifn hf c4
    by_cases c6 : x1 = (1 : Int32)
    · have hf := g_if hf c6
      refine g_tabIn (tgt := 65) (off := 47) S c6 dX10_planned_18 (by decide) (by decide) (by decide) rfl ?_
      refine lv_aload_n S.1 S.2.1 dX10_planned_65 rfl (lv_at hl 1 rfl) ?_
      refine g_get (a := a_t) S hK Wd iX10_planned_X10 0 rfl rfl 18 rfl rfl kX10_planned_2 rfl dX10_planned_66 ?_
      refine lv_iconst (v := 1) S.1 S.2.1 dX10_planned_69 (by decide) ?_
      refine g_iald (a := a_t_tried) S hK Wd 9 0 rfl rfl (show ¬ (((1 : Int32) < 0) ∨ 17 ≤ Int32.toNatClampNeg (1 : Int32)) from by decide) dX10_planned_70 ?_
      refine lv_aload_n S.1 S.2.1 dX10_planned_71 rfl (lv_at hl 1 rfl) ?_
      refine g_get (a := a_t) S hK Wd iX10_planned_X10 0 rfl rfl 16 rfl rfl kX10_planned_3 rfl dX10_planned_72 ?_
      refine lv_iconst (v := 1) S.1 S.2.1 dX10_planned_75 (by decide) ?_
      refine g_iald (a := a_t_now) S hK Wd 8 0 rfl rfl (show ¬ (((1 : Int32) < 0) ∨ 564 ≤ Int32.toNatClampNeg (1 : Int32)) from by decide) dX10_planned_76 ?_
      refine lv_isub S.1 S.2.1 dX10_planned_77 ?_
      exact g_iret S Wd hr hlk dX10_planned_78 (((u3.2 (1 : Int32).toNatClampNeg) - (t_now (1 : Int32).toNatClampNeg)), u3.2) hf rfl rfl
    have hf := g_ifn hf c6
    by_cases c7 : x1 = (2 : Int32)
    · have hf := g_if hf c7
      refine g_tabIn (tgt := 79) (off := 61) S c7 dX10_planned_18 (by decide) (by decide) (by decide) rfl ?_
      refine lv_aload_n S.1 S.2.1 dX10_planned_79 rfl (lv_at hl 1 rfl) ?_
      refine g_get (a := a_t) S hK Wd iX10_planned_X10 0 rfl rfl 18 rfl rfl kX10_planned_2 rfl dX10_planned_80 ?_
      refine lv_iconst (v := 2) S.1 S.2.1 dX10_planned_83 (by decide) ?_
      refine g_iald (a := a_t_tried) S hK Wd 9 0 rfl rfl (show ¬ (((2 : Int32) < 0) ∨ 17 ≤ Int32.toNatClampNeg (2 : Int32)) from by decide) dX10_planned_84 ?_
      refine lv_aload_n S.1 S.2.1 dX10_planned_85 rfl (lv_at hl 1 rfl) ?_
      refine g_get (a := a_t) S hK Wd iX10_planned_X10 0 rfl rfl 16 rfl rfl kX10_planned_3 rfl dX10_planned_86 ?_
      refine lv_iconst (v := 2) S.1 S.2.1 dX10_planned_89 (by decide) ?_
      refine g_iald (a := a_t_now) S hK Wd 8 0 rfl rfl (show ¬ (((2 : Int32) < 0) ∨ 564 ≤ Int32.toNatClampNeg (2 : Int32)) from by decide) dX10_planned_90 ?_
      refine lv_isub S.1 S.2.1 dX10_planned_91 ?_
      exact g_iret S Wd hr hlk dX10_planned_92 (((u3.2 (2 : Int32).toNatClampNeg) - (t_now (2 : Int32).toNatClampNeg)), u3.2) hf rfl rfl
    have hf := g_ifn hf c7
    refine lv_tableOut (tgt := 93) S.1 S.2.1 dX10_planned_18 ?_ rfl ?_
    · have q0 : (x1).toInt < 0 ∨ 2 < (x1).toInt := by
        have z0 : (x1).toInt ≠ 0 := fun e => g_ne c4 (e.trans (by decide))
        have z1 : (x1).toInt ≠ 1 := fun e => g_ne c6 (e.trans (by decide))
        have z2 : (x1).toInt ≠ 2 := fun e => g_ne c7 (e.trans (by decide))
        omega
      exact q0
    refine lv_iload_n S.1 S.2.1 dX10_planned_93 rfl (lv_at hl 0 rfl) ?_
    exact g_iret S Wd hr hlk dX10_planned_94 (u3.1, u3.2) hf rfl rfl
  · have hf := g_if hf c2
    refine lv_iconst (v := (-1)) S.1 S.2.1 dX10_planned_9 (by decide) ?_
    exact g_iret S Wd hr hlk dX10_planned_10 ((-1 : Int32), t_tried) hf rfl rfl
def wX10_odds (cI cB cZ cM cJ cK : ClassId) (a_t a_t_text a_t_corners a_t_streets a_t_ends a_t_time a_t_leaders a_t_home a_t_feet a_t_far a_t_now a_t_isKept a_t_tried a_t_row a_t_who a_t_then a_t_best a_t_seenAs a_t_seenAt a_t_plan : Nat) (t_trace : Int64) (t_typed t_at t_start t_sort t_value t_fault t_rowLong t_homes t_bestValue t_seen t_planMany : Int32) (t_corners t_streets t_ends t_time t_home t_feet t_far t_now t_tried t_plan : Nat → Int32) : List va_W := [[(a_t, .inr (10, [.long t_trace, .ref a_t_text, .int t_typed, .ref a_t_corners, .ref a_t_streets, .ref a_t_ends, .ref a_t_time, .ref a_t_leaders, .ref a_t_home, .ref a_t_feet, .int t_at, .int t_start, .int t_sort, .int t_value, .int t_fault, .ref a_t_far, .ref a_t_now, .ref a_t_isKept, .ref a_t_tried, .ref a_t_row, .int t_rowLong, .ref a_t_who, .ref a_t_then, .int t_homes, .ref a_t_best, .int t_bestValue, .ref a_t_seenAs, .ref a_t_seenAt, .int t_seen, .ref a_t_plan, .int t_planMany]))], [(a_t_corners, .inl (cI, 2, .inl t_corners))], [(a_t_streets, .inl (cI, 2, .inl t_streets))], [(a_t_ends, .inl (cI, 48, .inl t_ends))], [(a_t_time, .inl (cI, 24, .inl t_time))], [(a_t_home, .inl (cI, 12, .inl t_home))], [(a_t_feet, .inl (cI, 12, .inl t_feet))], [(a_t_far, .inl (cI, 64, .inl t_far))], [(a_t_now, .inl (cI, 564, .inl t_now))], [(a_t_tried, .inl (cI, 17, .inl t_tried))], [(a_t_plan, .inl (cI, 6, .inl t_plan))]]
def rmX10_odds : Room := { frames := 3, cells := 0, slots := 0, locals := 79 }
theorem n_X10_odds : yX10_odds.cls = RX10 ∧ yX10_odds.cls ≠ "java/lang/invoke/MethodHandle" ∧ yX10_odds.cls ≠ "java/lang/invoke/VarHandle" ∧ (parseMethodDescriptor yX10_odds.desc).map (fun d => d.parameters.length) = some 2 := by decide +kernel
set_option maxHeartbeats 4000000 in
set_option maxRecDepth 100000 in
theorem c_X10_odds (l : Launch) (D : va_G) (N : Nat) (cI cB cZ cM cJ cK : ClassId) (a_t a_t_text a_t_corners a_t_streets a_t_ends a_t_time a_t_leaders a_t_home a_t_feet a_t_far a_t_now a_t_isKept a_t_tried a_t_row a_t_who a_t_then a_t_best a_t_seenAs a_t_seenAt a_t_plan : Nat) (t_trace : Int64) (t_typed t_at t_start t_sort t_value t_fault t_rowLong t_homes t_bestValue t_seen t_planMany : Int32) (t_corners t_streets t_ends t_time t_home t_feet t_far t_now t_tried t_plan : Nat → Int32) (x1 x2 : Int32) : gM l yX10_odds wsX10_odds rmX10_odds D (gT cI cB cZ cM cJ cK) (wX10_odds cI cB cZ cM cJ cK  a_t a_t_text a_t_corners a_t_streets a_t_ends a_t_time a_t_leaders a_t_home a_t_feet a_t_far a_t_now a_t_isKept a_t_tried a_t_row a_t_who a_t_then a_t_best a_t_seenAs a_t_seenAt a_t_plan t_trace t_typed t_at t_start t_sort t_value t_fault t_rowLong t_homes t_bestValue t_seen t_planMany t_corners t_streets t_ends t_time t_home t_feet t_far t_now t_tried t_plan) [.ref a_t, .int x1, .int x2] (fX10_odds N t_planMany t_corners t_streets t_ends t_time t_home t_feet t_far t_now t_tried t_plan x1 x2) (fun _u : Int32 × (Nat → Int32) => some (.int _u.1)) (fun _u : Int32 × (Nat → Int32) => (wX10_odds cI cB cZ cM cJ cK  a_t a_t_text a_t_corners a_t_streets a_t_ends a_t_time a_t_leaders a_t_home a_t_feet a_t_far a_t_now a_t_isKept a_t_tried a_t_row a_t_who a_t_then a_t_best a_t_seenAs a_t_seenAt a_t_plan t_trace t_typed t_at t_start t_sort t_value t_fault t_rowLong t_homes t_bestValue t_seen t_planMany t_corners t_streets t_ends t_time t_home t_feet t_far t_now _u.2 t_plan)) := by
  refine g_start (cc := cX10_odds) (maxL := 9) (ret := (some .int)) (by decide) rfl (Nat.le_of_ble_eq_true rfl) ?_
  intro F hf hF p e s m below meth c A ls S hK hA Wd hr hlk hnm hl
  have b99 : ∀ (K58 : (Nat → Int32) → Int32 → Int32 → Int32 → Int32 → Option (Int32 × (Nat → Int32))) (hK58 : ∀ (t_tried : Nat → Int32) (x3 x4 x5 x6 : Int32) (H1 : Heap) (locs1 : List Loc) (ls1 : Array Slot), gw D A s.heap (wX10_odds cI cB cZ cM cJ cK  a_t a_t_text a_t_corners a_t_streets a_t_ends a_t_time a_t_leaders a_t_home a_t_feet a_t_far a_t_now a_t_isKept a_t_tried a_t_row a_t_who a_t_then a_t_best a_t_seenAs a_t_seenAt a_t_plan t_trace t_typed t_at t_start t_sort t_value t_fault t_rowLong t_homes t_bestValue t_seen t_planMany t_corners t_streets t_ends t_time t_home t_feet t_far t_now t_tried t_plan) H1 locs1 → lv_has ls1 9 [(0, .ref a_t), (1, .int x1), (2, .int x2), (3, .int x3), (4, .int x4), (5, .int x5), (6, .int x6)] → F = K58 t_tried x3 x4 x5 x6 → W p l e rmX10_odds s m [.ref a_t, .int x1, .int x2].toArray below meth c H1 locs1 0 0 (MQ below (gQ F (fun _u : Int32 × (Nat → Int32) => some (.int _u.1)) (fun _u : Int32 × (Nat → Int32) => (wX10_odds cI cB cZ cM cJ cK  a_t a_t_text a_t_corners a_t_streets a_t_ends a_t_time a_t_leaders a_t_home a_t_feet a_t_far a_t_now a_t_isKept a_t_tried a_t_row a_t_who a_t_then a_t_best a_t_seenAs a_t_seenAt a_t_plan t_trace t_typed t_at t_start t_sort t_value t_fault t_rowLong t_homes t_bestValue t_seen t_planMany t_corners t_streets t_ends t_time t_home t_feet t_far t_now _u.2 t_plan)) D A) [.ref a_t, .int x1, .int x2].toArray s 0 0 A) (F0 m 58 ls1 [])) (K72 : (Nat → Int32) → Int32 → Int32 → Int32 → Int32 → Int32 → Int32 → Option (Int32 × (Nat → Int32))) (hK72 : ∀ (t_tried : Nat → Int32) (x3 x4 x5 x6 x7 x8 : Int32) (H1 : Heap) (locs1 : List Loc) (ls1 : Array Slot), gw D A s.heap (wX10_odds cI cB cZ cM cJ cK  a_t a_t_text a_t_corners a_t_streets a_t_ends a_t_time a_t_leaders a_t_home a_t_feet a_t_far a_t_now a_t_isKept a_t_tried a_t_row a_t_who a_t_then a_t_best a_t_seenAs a_t_seenAt a_t_plan t_trace t_typed t_at t_start t_sort t_value t_fault t_rowLong t_homes t_bestValue t_seen t_planMany t_corners t_streets t_ends t_time t_home t_feet t_far t_now t_tried t_plan) H1 locs1 → lv_has ls1 9 [(0, .ref a_t), (1, .int x1), (2, .int x2), (3, .int x3), (4, .int x4), (5, .int x5), (6, .int x6), (7, .int x7), (8, .int x8)] → F = K72 t_tried x3 x4 x5 x6 x7 x8 → W p l e rmX10_odds s m [.ref a_t, .int x1, .int x2].toArray below meth c H1 locs1 0 0 (MQ below (gQ F (fun _u : Int32 × (Nat → Int32) => some (.int _u.1)) (fun _u : Int32 × (Nat → Int32) => (wX10_odds cI cB cZ cM cJ cK  a_t a_t_text a_t_corners a_t_streets a_t_ends a_t_time a_t_leaders a_t_home a_t_feet a_t_far a_t_now a_t_isKept a_t_tried a_t_row a_t_who a_t_then a_t_best a_t_seenAs a_t_seenAt a_t_plan t_trace t_typed t_at t_start t_sort t_value t_fault t_rowLong t_homes t_bestValue t_seen t_planMany t_corners t_streets t_ends t_time t_home t_feet t_far t_now _u.2 t_plan)) D A) [.ref a_t, .int x1, .int x2].toArray s 0 0 A) (F0 m 72 ls1 [])) , ∀ (t_tried : Nat → Int32) (x3 x4 x5 x6 x8 y0 y1 : Int32) (H1 : Heap) (locs1 : List Loc) (ls1 : Array Slot), gw D A s.heap (wX10_odds cI cB cZ cM cJ cK  a_t a_t_text a_t_corners a_t_streets a_t_ends a_t_time a_t_leaders a_t_home a_t_feet a_t_far a_t_now a_t_isKept a_t_tried a_t_row a_t_who a_t_then a_t_best a_t_seenAs a_t_seenAt a_t_plan t_trace t_typed t_at t_start t_sort t_value t_fault t_rowLong t_homes t_bestValue t_seen t_planMany t_corners t_streets t_ends t_time t_home t_feet t_far t_now t_tried t_plan) H1 locs1 → lv_has ls1 9 [(0, .ref a_t), (1, .int x1), (2, .int x2), (3, .int x3), (4, .int x4), (5, .int x5), (6, .int x6), (8, .int x8)] → F = fX10_odds_b99 N t_planMany t_corners t_streets t_ends t_time t_home t_feet t_far t_now t_plan x1 x2 K58 K72 t_tried x3 x4 x5 x6 x8 y0 y1 → W p l e rmX10_odds s m [.ref a_t, .int x1, .int x2].toArray below meth c H1 locs1 0 0 (MQ below (gQ F (fun _u : Int32 × (Nat → Int32) => some (.int _u.1)) (fun _u : Int32 × (Nat → Int32) => (wX10_odds cI cB cZ cM cJ cK  a_t a_t_text a_t_corners a_t_streets a_t_ends a_t_time a_t_leaders a_t_home a_t_feet a_t_far a_t_now a_t_isKept a_t_tried a_t_row a_t_who a_t_then a_t_best a_t_seenAs a_t_seenAt a_t_plan t_trace t_typed t_at t_start t_sort t_value t_fault t_rowLong t_homes t_bestValue t_seen t_planMany t_corners t_streets t_ends t_time t_home t_feet t_far t_now _u.2 t_plan)) D A) [.ref a_t, .int x1, .int x2].toArray s 0 0 A) (F0 m 99 ls1 [.int y0, .int y1]) := by
    intro K58 hK58 K72 hK72 t_tried x3 x4 x5 x6 x8 y0 y1 H locs ls Wd hl hf
    refine lv_imul S.1 S.2.1 dX10_odds_99 ?_
    refine lv_istore (lv' := [(7, .int (y1 * y0)), (0, .ref a_t), (1, .int x1), (2, .int x2), (3, .int x3), (4, .int x4), (5, .int x5), (6, .int x6), (8, .int x8)]) S.1 S.2.1 dX10_odds_100 hl (by decide) rfl (fun ls hl => ?_)
    refine lv_iinc (v := (x8 + (1 : Int32))) (lv' := [(8, .int (x8 + (1 : Int32))), (7, .int (y1 * y0)), (0, .ref a_t), (1, .int x1), (2, .int x2), (3, .int x3), (4, .int x4), (5, .int x5), (6, .int x6)]) S.1 S.2.1 dX10_odds_102 hl (k := 8) rfl rfl (by decide) rfl (fun ls hl => ?_)
    refine lv_goto (tgt := 72) S.1 S.2.1 dX10_odds_105 rfl ?_
    exact hK72 t_tried x3 x4 x5 x6 (y1 * y0) (x8 + (1 : Int32)) _ _ _ Wd (lv_sub hl [2, 3, 4, 5, 6, 7, 8, 1, 0] rfl) hf
  have b130 : ∀ (K58 : (Nat → Int32) → Int32 → Int32 → Int32 → Int32 → Option (Int32 × (Nat → Int32))) (hK58 : ∀ (t_tried : Nat → Int32) (x3 x4 x5 x6 : Int32) (H1 : Heap) (locs1 : List Loc) (ls1 : Array Slot), gw D A s.heap (wX10_odds cI cB cZ cM cJ cK  a_t a_t_text a_t_corners a_t_streets a_t_ends a_t_time a_t_leaders a_t_home a_t_feet a_t_far a_t_now a_t_isKept a_t_tried a_t_row a_t_who a_t_then a_t_best a_t_seenAs a_t_seenAt a_t_plan t_trace t_typed t_at t_start t_sort t_value t_fault t_rowLong t_homes t_bestValue t_seen t_planMany t_corners t_streets t_ends t_time t_home t_feet t_far t_now t_tried t_plan) H1 locs1 → lv_has ls1 9 [(0, .ref a_t), (1, .int x1), (2, .int x2), (3, .int x3), (4, .int x4), (5, .int x5), (6, .int x6)] → F = K58 t_tried x3 x4 x5 x6 → W p l e rmX10_odds s m [.ref a_t, .int x1, .int x2].toArray below meth c H1 locs1 0 0 (MQ below (gQ F (fun _u : Int32 × (Nat → Int32) => some (.int _u.1)) (fun _u : Int32 × (Nat → Int32) => (wX10_odds cI cB cZ cM cJ cK  a_t a_t_text a_t_corners a_t_streets a_t_ends a_t_time a_t_leaders a_t_home a_t_feet a_t_far a_t_now a_t_isKept a_t_tried a_t_row a_t_who a_t_then a_t_best a_t_seenAs a_t_seenAt a_t_plan t_trace t_typed t_at t_start t_sort t_value t_fault t_rowLong t_homes t_bestValue t_seen t_planMany t_corners t_streets t_ends t_time t_home t_feet t_far t_now _u.2 t_plan)) D A) [.ref a_t, .int x1, .int x2].toArray s 0 0 A) (F0 m 58 ls1 [])) , ∀ (t_tried : Nat → Int32) (x3 x5 x6 y0 y1 : Int32) (H1 : Heap) (locs1 : List Loc) (ls1 : Array Slot), gw D A s.heap (wX10_odds cI cB cZ cM cJ cK  a_t a_t_text a_t_corners a_t_streets a_t_ends a_t_time a_t_leaders a_t_home a_t_feet a_t_far a_t_now a_t_isKept a_t_tried a_t_row a_t_who a_t_then a_t_best a_t_seenAs a_t_seenAt a_t_plan t_trace t_typed t_at t_start t_sort t_value t_fault t_rowLong t_homes t_bestValue t_seen t_planMany t_corners t_streets t_ends t_time t_home t_feet t_far t_now t_tried t_plan) H1 locs1 → lv_has ls1 9 [(0, .ref a_t), (1, .int x1), (2, .int x2), (3, .int x3), (5, .int x5), (6, .int x6)] → F = fX10_odds_b130 N t_planMany t_corners t_streets t_ends t_time t_home t_feet t_far t_now t_plan x1 x2 K58 t_tried x3 x5 x6 y0 y1 → W p l e rmX10_odds s m [.ref a_t, .int x1, .int x2].toArray below meth c H1 locs1 0 0 (MQ below (gQ F (fun _u : Int32 × (Nat → Int32) => some (.int _u.1)) (fun _u : Int32 × (Nat → Int32) => (wX10_odds cI cB cZ cM cJ cK  a_t a_t_text a_t_corners a_t_streets a_t_ends a_t_time a_t_leaders a_t_home a_t_feet a_t_far a_t_now a_t_isKept a_t_tried a_t_row a_t_who a_t_then a_t_best a_t_seenAs a_t_seenAt a_t_plan t_trace t_typed t_at t_start t_sort t_value t_fault t_rowLong t_homes t_bestValue t_seen t_planMany t_corners t_streets t_ends t_time t_home t_feet t_far t_now _u.2 t_plan)) D A) [.ref a_t, .int x1, .int x2].toArray s 0 0 A) (F0 m 130 ls1 [.int y0, .int y1]) := by
    intro K58 hK58 t_tried x3 x5 x6 y0 y1 H locs ls Wd hl hf
    refine lv_iadd S.1 S.2.1 dX10_odds_130 ?_
    refine lv_istore (lv' := [(4, .int (y1 + y0)), (0, .ref a_t), (1, .int x1), (2, .int x2), (3, .int x3), (5, .int x5), (6, .int x6)]) S.1 S.2.1 dX10_odds_131 hl (by decide) rfl (fun ls hl => ?_)
    refine lv_iinc (v := (x6 + (1 : Int32))) (lv' := [(6, .int (x6 + (1 : Int32))), (4, .int (y1 + y0)), (0, .ref a_t), (1, .int x1), (2, .int x2), (3, .int x3), (5, .int x5)]) S.1 S.2.1 dX10_odds_133 hl (k := 6) rfl rfl (by decide) rfl (fun ls hl => ?_)
    refine lv_goto (tgt := 58) S.1 S.2.1 dX10_odds_136 rfl ?_
    exact hK58 t_tried x3 (y1 + y0) x5 (x6 + (1 : Int32)) _ _ _ Wd (lv_sub hl [2, 3, 4, 5, 1, 6, 0] rfl) hf
  have b72 : ∀ (K58 : (Nat → Int32) → Int32 → Int32 → Int32 → Int32 → Option (Int32 × (Nat → Int32))) (hK58 : ∀ (t_tried : Nat → Int32) (x3 x4 x5 x6 : Int32) (H1 : Heap) (locs1 : List Loc) (ls1 : Array Slot), gw D A s.heap (wX10_odds cI cB cZ cM cJ cK  a_t a_t_text a_t_corners a_t_streets a_t_ends a_t_time a_t_leaders a_t_home a_t_feet a_t_far a_t_now a_t_isKept a_t_tried a_t_row a_t_who a_t_then a_t_best a_t_seenAs a_t_seenAt a_t_plan t_trace t_typed t_at t_start t_sort t_value t_fault t_rowLong t_homes t_bestValue t_seen t_planMany t_corners t_streets t_ends t_time t_home t_feet t_far t_now t_tried t_plan) H1 locs1 → lv_has ls1 9 [(0, .ref a_t), (1, .int x1), (2, .int x2), (3, .int x3), (4, .int x4), (5, .int x5), (6, .int x6)] → F = K58 t_tried x3 x4 x5 x6 → W p l e rmX10_odds s m [.ref a_t, .int x1, .int x2].toArray below meth c H1 locs1 0 0 (MQ below (gQ F (fun _u : Int32 × (Nat → Int32) => some (.int _u.1)) (fun _u : Int32 × (Nat → Int32) => (wX10_odds cI cB cZ cM cJ cK  a_t a_t_text a_t_corners a_t_streets a_t_ends a_t_time a_t_leaders a_t_home a_t_feet a_t_far a_t_now a_t_isKept a_t_tried a_t_row a_t_who a_t_then a_t_best a_t_seenAs a_t_seenAt a_t_plan t_trace t_typed t_at t_start t_sort t_value t_fault t_rowLong t_homes t_bestValue t_seen t_planMany t_corners t_streets t_ends t_time t_home t_feet t_far t_now _u.2 t_plan)) D A) [.ref a_t, .int x1, .int x2].toArray s 0 0 A) (F0 m 58 ls1 [])) (n : Nat), ∀ (t_tried : Nat → Int32) (x3 x4 x5 x6 x7 x8 : Int32) (H1 : Heap) (locs1 : List Loc) (ls1 : Array Slot), gw D A s.heap (wX10_odds cI cB cZ cM cJ cK  a_t a_t_text a_t_corners a_t_streets a_t_ends a_t_time a_t_leaders a_t_home a_t_feet a_t_far a_t_now a_t_isKept a_t_tried a_t_row a_t_who a_t_then a_t_best a_t_seenAs a_t_seenAt a_t_plan t_trace t_typed t_at t_start t_sort t_value t_fault t_rowLong t_homes t_bestValue t_seen t_planMany t_corners t_streets t_ends t_time t_home t_feet t_far t_now t_tried t_plan) H1 locs1 → lv_has ls1 9 [(0, .ref a_t), (1, .int x1), (2, .int x2), (3, .int x3), (4, .int x4), (5, .int x5), (6, .int x6), (7, .int x7), (8, .int x8)] → F = fX10_odds_b72 N t_planMany t_corners t_streets t_ends t_time t_home t_feet t_far t_now t_plan x1 x2 K58 n t_tried x3 x4 x5 x6 x7 x8 → W p l e rmX10_odds s m [.ref a_t, .int x1, .int x2].toArray below meth c H1 locs1 0 0 (MQ below (gQ F (fun _u : Int32 × (Nat → Int32) => some (.int _u.1)) (fun _u : Int32 × (Nat → Int32) => (wX10_odds cI cB cZ cM cJ cK  a_t a_t_text a_t_corners a_t_streets a_t_ends a_t_time a_t_leaders a_t_home a_t_feet a_t_far a_t_now a_t_isKept a_t_tried a_t_row a_t_who a_t_then a_t_best a_t_seenAs a_t_seenAt a_t_plan t_trace t_typed t_at t_start t_sort t_value t_fault t_rowLong t_homes t_bestValue t_seen t_planMany t_corners t_streets t_ends t_time t_home t_feet t_far t_now _u.2 t_plan)) D A) [.ref a_t, .int x1, .int x2].toArray s 0 0 A) (F0 m 72 ls1 []) := by
    intro K58 hK58 n
    induction n with
    | zero => intro t_tried x3 x4 x5 x6 x7 x8 H locs ls Wd hl hf; exact absurd hf hF
    | succ n ih =>
      intro t_tried x3 x4 x5 x6 x7 x8 H locs ls Wd hl hf
      refine lv_iload S.1 S.2.1 dX10_odds_72 (lv_at hl 8 rfl) ?_
      refine lv_iload_n S.1 S.2.1 dX10_odds_74 rfl (lv_at hl 3 rfl) ?_
      refine lv_icmp_ge (tgt := 108) S.1 S.2.1 dX10_odds_75 rfl (fun c8 => ?_) (fun c8 => ?_)
      · have hf := g_if hf c8
        refine lv_aload_n S.1 S.2.1 dX10_odds_108 rfl (lv_at hl 0 rfl) ?_
        refine lv_iload S.1 S.2.1 dX10_odds_109 (lv_at hl 6 rfl) ?_
        obtain ⟨u9, hu9, hf⟩ := g_bind hF hf
        refine g_callV (ws' := (wX10_odds cI cB cZ cM cJ cK  a_t a_t_text a_t_corners a_t_streets a_t_ends a_t_time a_t_leaders a_t_home a_t_feet a_t_far a_t_now a_t_isKept a_t_tried a_t_row a_t_who a_t_then a_t_best a_t_seenAs a_t_seenAt a_t_plan t_trace t_typed t_at t_start t_sort t_value t_fault t_rowLong t_homes t_bestValue t_seen t_planMany t_corners t_streets t_ends t_time t_home t_feet t_far t_now u9.2 t_plan)) (As := [.int x6]) (rest := []) (st1 := [.int u9.1]) S hK hA Wd (c_X10_goPlan l D N cI cB cZ cM cJ cK a_t a_t_text a_t_corners a_t_streets a_t_ends a_t_time a_t_leaders a_t_home a_t_feet a_t_far a_t_now a_t_isKept a_t_tried a_t_row a_t_who a_t_then a_t_best a_t_seenAs a_t_seenAt a_t_plan t_trace t_typed t_at t_start t_sort t_value t_fault t_rowLong t_homes t_bestValue t_seen t_planMany t_streets t_ends t_time t_home t_feet t_far t_now t_tried t_plan x6) (cwV 1 S.2.2.2.2 gX10_odds_X10_goPlan rfl rfl rfl n_X10_goPlan ⟨Nat.le_of_ble_eq_true rfl, Nat.le_of_ble_eq_true rfl⟩) hu9 [0, 2, 3, 4, 5, 6, 7, 8, 9, 10] rfl rfl 0 10 rfl rfl rfl rfl rfl rfl rfl hl.1 rfl (Nat.le_of_ble_eq_true rfl) dX10_odds_111 ⟨Nat.zero_le _, Nat.zero_le _⟩ (fun H locs Wd => ?_)
        refine lv_pop S.1 S.2.1 dX10_odds_114 rfl ?_
        refine lv_iload S.1 S.2.1 dX10_odds_115 (lv_at hl 4 rfl) ?_
        refine lv_aload_n S.1 S.2.1 dX10_odds_117 rfl (lv_at hl 0 rfl) ?_
        obtain ⟨u10, hu10, hf⟩ := g_bind hF hf
        refine g_callV (ws' := (wX10_odds cI cB cZ cM cJ cK  a_t a_t_text a_t_corners a_t_streets a_t_ends a_t_time a_t_leaders a_t_home a_t_feet a_t_far a_t_now a_t_isKept a_t_tried a_t_row a_t_who a_t_then a_t_best a_t_seenAs a_t_seenAt a_t_plan t_trace t_typed t_at t_start t_sort t_value t_fault t_rowLong t_homes t_bestValue t_seen t_planMany t_corners t_streets t_ends t_time t_home t_feet t_far t_now u9.2 t_plan)) (As := []) (rest := [.int x4]) (st1 := [.int u10, .int x4]) S hK hA Wd (c_X10_isAtDoor l D N cI cB cZ cM cJ cK a_t a_t_text a_t_corners a_t_streets a_t_ends a_t_time a_t_leaders a_t_home a_t_feet a_t_far a_t_now a_t_isKept a_t_tried a_t_row a_t_who a_t_then a_t_best a_t_seenAs a_t_seenAt a_t_plan t_trace t_typed t_at t_start t_sort t_value t_fault t_rowLong t_homes t_bestValue t_seen t_planMany t_corners u9.2) (cwV 0 S.2.2.2.2 gX10_odds_X10_isAtDoor rfl rfl rfl n_X10_isAtDoor ⟨Nat.le_of_ble_eq_true rfl, Nat.le_of_ble_eq_true rfl⟩) hu10 [0, 1, 9] rfl rfl 0 10 rfl rfl rfl rfl rfl rfl rfl hl.1 rfl (Nat.le_of_ble_eq_true rfl) dX10_odds_118 ⟨Nat.zero_le _, Nat.zero_le _⟩ (fun H locs Wd => ?_)
        refine lv_if_eq (tgt := 129) S.1 S.2.1 dX10_odds_121 rfl (fun c11 => ?_) (fun c11 => ?_)
        · have hf := g_if hf c11
          refine lv_iconst (v := 0) S.1 S.2.1 dX10_odds_129 (by decide) ?_
          exact b130 K58 hK58 u9.2 x3 x5 x6 (0 : Int32) x4 _ _ _ Wd (lv_sub hl [0, 1, 2, 3, 5, 6] rfl) hf
        · have hf := g_ifn hf c11
          refine lv_iload S.1 S.2.1 dX10_odds_124 (lv_at hl 7 rfl) ?_
          refine lv_goto (tgt := 130) S.1 S.2.1 dX10_odds_126 rfl ?_
          exact b130 K58 hK58 u9.2 x3 x5 x6 x7 x4 _ _ _ Wd (lv_sub hl [0, 1, 2, 3, 5, 6] rfl) hf
      · have hf := g_ifn hf c8
        refine lv_iload S.1 S.2.1 dX10_odds_78 (lv_at hl 7 rfl) ?_
        refine lv_iload S.1 S.2.1 dX10_odds_80 (lv_at hl 6 rfl) ?_
        refine lv_iload S.1 S.2.1 dX10_odds_82 (lv_at hl 8 rfl) ?_
        refine lv_ishr S.1 S.2.1 dX10_odds_84 ?_
        refine lv_iconst (v := 1) S.1 S.2.1 dX10_odds_85 (by decide) ?_
        refine lv_iand S.1 S.2.1 dX10_odds_86 ?_
        refine lv_iconst (v := 1) S.1 S.2.1 dX10_odds_87 (by decide) ?_
        refine lv_icmp_ne (tgt := 95) S.1 S.2.1 dX10_odds_88 rfl (fun c12 => ?_) (fun c12 => ?_)
        · have hf := g_ifn hf c12
          refine lv_bipush (v := 10) S.1 S.2.1 dX10_odds_95 (by decide) ?_
          refine lv_iload_n S.1 S.2.1 dX10_odds_97 rfl (lv_at hl 1 rfl) ?_
          refine lv_isub S.1 S.2.1 dX10_odds_98 ?_
          exact b99 K58 hK58 (fun t_tried x3 x4 x5 x6 x7 x8 => fX10_odds_b72 N t_planMany t_corners t_streets t_ends t_time t_home t_feet t_far t_now t_plan x1 x2 K58 n t_tried x3 x4 x5 x6 x7 x8) ih t_tried x3 x4 x5 x6 x8 ((10 : Int32) - x1) x7 _ _ _ Wd (lv_sub hl [0, 1, 2, 3, 4, 5, 6, 8] rfl) hf
        · have hf := g_if hf c12
          refine lv_iload_n S.1 S.2.1 dX10_odds_91 rfl (lv_at hl 1 rfl) ?_
          refine lv_goto (tgt := 99) S.1 S.2.1 dX10_odds_92 rfl ?_
          exact b99 K58 hK58 (fun t_tried x3 x4 x5 x6 x7 x8 => fX10_odds_b72 N t_planMany t_corners t_streets t_ends t_time t_home t_feet t_far t_now t_plan x1 x2 K58 n t_tried x3 x4 x5 x6 x7 x8) ih t_tried x3 x4 x5 x6 x8 x1 x7 _ _ _ Wd (lv_sub hl [0, 1, 2, 3, 4, 5, 6, 8] rfl) hf
  have b147 : ∀ (n : Nat), ∀ (t_tried : Nat → Int32) (x4 x5 x6 x7 : Int32) (H1 : Heap) (locs1 : List Loc) (ls1 : Array Slot), gw D A s.heap (wX10_odds cI cB cZ cM cJ cK  a_t a_t_text a_t_corners a_t_streets a_t_ends a_t_time a_t_leaders a_t_home a_t_feet a_t_far a_t_now a_t_isKept a_t_tried a_t_row a_t_who a_t_then a_t_best a_t_seenAs a_t_seenAt a_t_plan t_trace t_typed t_at t_start t_sort t_value t_fault t_rowLong t_homes t_bestValue t_seen t_planMany t_corners t_streets t_ends t_time t_home t_feet t_far t_now t_tried t_plan) H1 locs1 → lv_has ls1 9 [(2, .int x2), (4, .int x4), (5, .int x5), (6, .int x6), (7, .int x7)] → F = fX10_odds_b147 N t_planMany t_corners t_streets t_ends t_time t_home t_feet t_far t_now t_plan x1 x2  n t_tried x4 x5 x6 x7 → W p l e rmX10_odds s m [.ref a_t, .int x1, .int x2].toArray below meth c H1 locs1 0 0 (MQ below (gQ F (fun _u : Int32 × (Nat → Int32) => some (.int _u.1)) (fun _u : Int32 × (Nat → Int32) => (wX10_odds cI cB cZ cM cJ cK  a_t a_t_text a_t_corners a_t_streets a_t_ends a_t_time a_t_leaders a_t_home a_t_feet a_t_far a_t_now a_t_isKept a_t_tried a_t_row a_t_who a_t_then a_t_best a_t_seenAs a_t_seenAt a_t_plan t_trace t_typed t_at t_start t_sort t_value t_fault t_rowLong t_homes t_bestValue t_seen t_planMany t_corners t_streets t_ends t_time t_home t_feet t_far t_now _u.2 t_plan)) D A) [.ref a_t, .int x1, .int x2].toArray s 0 0 A) (F0 m 147 ls1 []) := by
    intro  n
    induction n with
    | zero => intro t_tried x4 x5 x6 x7 H locs ls Wd hl hf; exact absurd hf hF
    | succ n ih =>
      intro t_tried x4 x5 x6 x7 H locs ls Wd hl hf
      refine lv_iload S.1 S.2.1 dX10_odds_147 (lv_at hl 4 rfl) ?_
      refine lv_if_eq (tgt := 170) S.1 S.2.1 dX10_odds_149 rfl (fun c13 => ?_) (fun c13 => ?_)
      · have hf := g_if hf c13
        refine lv_iload_n S.1 S.2.1 dX10_odds_170 rfl (lv_at hl 0 rfl) ?_
        refine lv_if_ne (tgt := 182) S.1 S.2.1 dX10_odds_171 rfl (fun c14 => ?_) (fun c14 => ?_)
        · have hf := g_ifn hf c14
          refine lv_iload S.1 S.2.1 dX10_odds_182 (lv_at hl 2 rfl) ?_
          refine lv_iload S.1 S.2.1 dX10_odds_184 (lv_at hl 3 rfl) ?_
          obtain ⟨h15, hf⟩ := g_gc hF hf
          refine lv_idiv S.1 S.2.1 dX10_odds_186 h15 ?_
          exact g_iret S Wd hr hlk dX10_odds_187 ((x5 / x6), t_tried) hf rfl rfl
        · have hf := g_if hf c14
          refine lv_iload S.1 S.2.1 dX10_odds_174 (lv_at hl 1 rfl) ?_
          refine lv_iload S.1 S.2.1 dX10_odds_176 (lv_at hl 3 rfl) ?_
          obtain ⟨h16, hf⟩ := g_gc hF hf
          refine lv_idiv S.1 S.2.1 dX10_odds_178 h16 ?_
          refine lv_goto (tgt := 187) S.1 S.2.1 dX10_odds_179 rfl ?_
          exact g_iret S Wd hr hlk dX10_odds_187 ((x4 / x6), t_tried) hf rfl rfl
      · have hf := g_ifn hf c13
        refine lv_iload S.1 S.2.1 dX10_odds_152 (lv_at hl 3 rfl) ?_
        refine lv_iload S.1 S.2.1 dX10_odds_154 (lv_at hl 4 rfl) ?_
        obtain ⟨h17, hf⟩ := g_gc hF hf
        refine lv_irem S.1 S.2.1 dX10_odds_156 h17 ?_
        refine lv_istore (lv' := [(8, .int (x6 - x6 / x7 * x7)), (2, .int x2), (4, .int x4), (5, .int x5), (6, .int x6), (7, .int x7)]) S.1 S.2.1 dX10_odds_157 hl (by decide) rfl (fun ls hl => ?_)
        refine lv_iload S.1 S.2.1 dX10_odds_159 (lv_at hl 5 rfl) ?_
        refine lv_istore (lv' := [(6, .int x7), (8, .int (x6 - x6 / x7 * x7)), (2, .int x2), (4, .int x4), (5, .int x5), (7, .int x7)]) S.1 S.2.1 dX10_odds_161 hl (by decide) rfl (fun ls hl => ?_)
        refine lv_iload S.1 S.2.1 dX10_odds_163 (lv_at hl 1 rfl) ?_
        refine lv_istore (lv' := [(7, .int (x6 - x6 / x7 * x7)), (6, .int x7), (8, .int (x6 - x6 / x7 * x7)), (2, .int x2), (4, .int x4), (5, .int x5)]) S.1 S.2.1 dX10_odds_165 hl (by decide) rfl (fun ls hl => ?_)
        refine lv_goto (tgt := 147) S.1 S.2.1 dX10_odds_167 rfl ?_
        exact ih t_tried x4 x5 x7 (x6 - x6 / x7 * x7) _ _ _ Wd (lv_sub hl [3, 4, 5, 1, 0] rfl) hf
  have b58 : ∀ (n : Nat), ∀ (t_tried : Nat → Int32) (x3 x4 x5 x6 : Int32) (H1 : Heap) (locs1 : List Loc) (ls1 : Array Slot), gw D A s.heap (wX10_odds cI cB cZ cM cJ cK  a_t a_t_text a_t_corners a_t_streets a_t_ends a_t_time a_t_leaders a_t_home a_t_feet a_t_far a_t_now a_t_isKept a_t_tried a_t_row a_t_who a_t_then a_t_best a_t_seenAs a_t_seenAt a_t_plan t_trace t_typed t_at t_start t_sort t_value t_fault t_rowLong t_homes t_bestValue t_seen t_planMany t_corners t_streets t_ends t_time t_home t_feet t_far t_now t_tried t_plan) H1 locs1 → lv_has ls1 9 [(0, .ref a_t), (1, .int x1), (2, .int x2), (3, .int x3), (4, .int x4), (5, .int x5), (6, .int x6)] → F = fX10_odds_b58 N t_planMany t_corners t_streets t_ends t_time t_home t_feet t_far t_now t_plan x1 x2  n t_tried x3 x4 x5 x6 → W p l e rmX10_odds s m [.ref a_t, .int x1, .int x2].toArray below meth c H1 locs1 0 0 (MQ below (gQ F (fun _u : Int32 × (Nat → Int32) => some (.int _u.1)) (fun _u : Int32 × (Nat → Int32) => (wX10_odds cI cB cZ cM cJ cK  a_t a_t_text a_t_corners a_t_streets a_t_ends a_t_time a_t_leaders a_t_home a_t_feet a_t_far a_t_now a_t_isKept a_t_tried a_t_row a_t_who a_t_then a_t_best a_t_seenAs a_t_seenAt a_t_plan t_trace t_typed t_at t_start t_sort t_value t_fault t_rowLong t_homes t_bestValue t_seen t_planMany t_corners t_streets t_ends t_time t_home t_feet t_far t_now _u.2 t_plan)) D A) [.ref a_t, .int x1, .int x2].toArray s 0 0 A) (F0 m 58 ls1 []) := by
    intro  n
    induction n with
    | zero => intro t_tried x3 x4 x5 x6 H locs ls Wd hl hf; exact absurd hf hF
    | succ n ih =>
      intro t_tried x3 x4 x5 x6 H locs ls Wd hl hf
      refine lv_iload S.1 S.2.1 dX10_odds_58 (lv_at hl 6 rfl) ?_
      refine lv_iconst (v := 1) S.1 S.2.1 dX10_odds_60 (by decide) ?_
      refine lv_iload_n S.1 S.2.1 dX10_odds_61 rfl (lv_at hl 3 rfl) ?_
      refine lv_ishl S.1 S.2.1 dX10_odds_62 ?_
      refine lv_icmp_ge (tgt := 139) S.1 S.2.1 dX10_odds_63 rfl (fun c7 => ?_) (fun c7 => ?_)
      · have hf := g_if hf c7
        refine lv_iload S.1 S.2.1 dX10_odds_139 (lv_at hl 4 rfl) ?_
        refine lv_istore (lv' := [(6, .int x4), (0, .ref a_t), (1, .int x1), (2, .int x2), (3, .int x3), (4, .int x4), (5, .int x5)]) S.1 S.2.1 dX10_odds_141 hl (by decide) rfl (fun ls hl => ?_)
        refine lv_iload S.1 S.2.1 dX10_odds_143 (lv_at hl 6 rfl) ?_
        refine lv_istore (lv' := [(7, .int x5), (6, .int x4), (0, .ref a_t), (1, .int x1), (2, .int x2), (3, .int x3), (4, .int x4), (5, .int x5)]) S.1 S.2.1 dX10_odds_145 hl (by decide) rfl (fun ls hl => ?_)
        exact b147  N t_tried x4 x5 x4 x5 _ _ _ Wd (lv_sub hl [4, 6, 7, 1, 0] rfl) hf
      · have hf := g_ifn hf c7
        refine lv_iconst (v := 1) S.1 S.2.1 dX10_odds_66 (by decide) ?_
        refine lv_istore (lv' := [(7, .int (1 : Int32)), (0, .ref a_t), (1, .int x1), (2, .int x2), (3, .int x3), (4, .int x4), (5, .int x5), (6, .int x6)]) S.1 S.2.1 dX10_odds_67 hl (by decide) rfl (fun ls hl => ?_)
        refine lv_iconst (v := 0) S.1 S.2.1 dX10_odds_69 (by decide) ?_
        refine lv_istore (lv' := [(8, .int (0 : Int32)), (7, .int (1 : Int32)), (0, .ref a_t), (1, .int x1), (2, .int x2), (3, .int x3), (4, .int x4), (5, .int x5), (6, .int x6)]) S.1 S.2.1 dX10_odds_70 hl (by decide) rfl (fun ls hl => ?_)
        exact b72 (fun t_tried x3 x4 x5 x6 => fX10_odds_b58 N t_planMany t_corners t_streets t_ends t_time t_home t_feet t_far t_now t_plan x1 x2 n t_tried x3 x4 x5 x6) ih N t_tried x3 x4 x5 x6 (1 : Int32) (0 : Int32) _ _ _ Wd (lv_sub hl [2, 3, 4, 5, 6, 7, 8, 1, 0] rfl) hf
  have b36 : ∀ (n : Nat), ∀ (t_tried : Nat → Int32) (x3 x4 x5 x6 : Int32) (H1 : Heap) (locs1 : List Loc) (ls1 : Array Slot), gw D A s.heap (wX10_odds cI cB cZ cM cJ cK  a_t a_t_text a_t_corners a_t_streets a_t_ends a_t_time a_t_leaders a_t_home a_t_feet a_t_far a_t_now a_t_isKept a_t_tried a_t_row a_t_who a_t_then a_t_best a_t_seenAs a_t_seenAt a_t_plan t_trace t_typed t_at t_start t_sort t_value t_fault t_rowLong t_homes t_bestValue t_seen t_planMany t_corners t_streets t_ends t_time t_home t_feet t_far t_now t_tried t_plan) H1 locs1 → lv_has ls1 9 [(0, .ref a_t), (1, .int x1), (2, .int x2), (3, .int x3), (4, .int x4), (5, .int x5), (6, .int x6)] → F = fX10_odds_b36 N t_planMany t_corners t_streets t_ends t_time t_home t_feet t_far t_now t_plan x1 x2  n t_tried x3 x4 x5 x6 → W p l e rmX10_odds s m [.ref a_t, .int x1, .int x2].toArray below meth c H1 locs1 0 0 (MQ below (gQ F (fun _u : Int32 × (Nat → Int32) => some (.int _u.1)) (fun _u : Int32 × (Nat → Int32) => (wX10_odds cI cB cZ cM cJ cK  a_t a_t_text a_t_corners a_t_streets a_t_ends a_t_time a_t_leaders a_t_home a_t_feet a_t_far a_t_now a_t_isKept a_t_tried a_t_row a_t_who a_t_then a_t_best a_t_seenAs a_t_seenAt a_t_plan t_trace t_typed t_at t_start t_sort t_value t_fault t_rowLong t_homes t_bestValue t_seen t_planMany t_corners t_streets t_ends t_time t_home t_feet t_far t_now _u.2 t_plan)) D A) [.ref a_t, .int x1, .int x2].toArray s 0 0 A) (F0 m 36 ls1 []) := by
    intro  n
    induction n with
    | zero => intro t_tried x3 x4 x5 x6 H locs ls Wd hl hf; exact absurd hf hF
    | succ n ih =>
      intro t_tried x3 x4 x5 x6 H locs ls Wd hl hf
      refine lv_iload S.1 S.2.1 dX10_odds_36 (lv_at hl 6 rfl) ?_
      refine lv_iload_n S.1 S.2.1 dX10_odds_38 rfl (lv_at hl 3 rfl) ?_
      refine lv_icmp_ge (tgt := 55) S.1 S.2.1 dX10_odds_39 rfl (fun c6 => ?_) (fun c6 => ?_)
      · have hf := g_if hf c6
        refine lv_iconst (v := 0) S.1 S.2.1 dX10_odds_55 (by decide) ?_
        refine lv_istore (lv' := [(6, .int (0 : Int32)), (0, .ref a_t), (1, .int x1), (2, .int x2), (3, .int x3), (4, .int x4), (5, .int x5)]) S.1 S.2.1 dX10_odds_56 hl (by decide) rfl (fun ls hl => ?_)
        exact b58  N t_tried x3 x4 x5 (0 : Int32) _ _ _ Wd (lv_sub hl [1, 2, 3, 4, 5, 6, 0] rfl) hf
      · have hf := g_ifn hf c6
        refine lv_iload S.1 S.2.1 dX10_odds_42 (lv_at hl 5 rfl) ?_
        refine lv_bipush (v := 10) S.1 S.2.1 dX10_odds_44 (by decide) ?_
        refine lv_imul S.1 S.2.1 dX10_odds_46 ?_
        refine lv_istore (lv' := [(5, .int (x5 * (10 : Int32))), (0, .ref a_t), (1, .int x1), (2, .int x2), (3, .int x3), (4, .int x4), (6, .int x6)]) S.1 S.2.1 dX10_odds_47 hl (by decide) rfl (fun ls hl => ?_)
        refine lv_iinc (v := (x6 + (1 : Int32))) (lv' := [(6, .int (x6 + (1 : Int32))), (5, .int (x5 * (10 : Int32))), (0, .ref a_t), (1, .int x1), (2, .int x2), (3, .int x3), (4, .int x4)]) S.1 S.2.1 dX10_odds_49 hl (k := 6) rfl rfl (by decide) rfl (fun ls hl => ?_)
        refine lv_goto (tgt := 36) S.1 S.2.1 dX10_odds_52 rfl ?_
        exact ih t_tried x3 x4 (x5 * (10 : Int32)) (x6 + (1 : Int32)) _ _ _ Wd (lv_sub hl [2, 3, 4, 5, 6, 1, 0] rfl) hf
  refine lv_iload_n S.1 S.2.1 dX10_odds_0 rfl (lv_at hl 1 rfl) ?_
  refine lv_iconst (v := 0) S.1 S.2.1 dX10_odds_1 (by decide) ?_
  refine lv_bipush (v := 10) S.1 S.2.1 dX10_odds_2 (by decide) ?_
  obtain ⟨u1, hu1, hf⟩ := g_bind hF hf
  refine g_callS (ws' := (wX10_odds cI cB cZ cM cJ cK  a_t a_t_text a_t_corners a_t_streets a_t_ends a_t_time a_t_leaders a_t_home a_t_feet a_t_far a_t_now a_t_isKept a_t_tried a_t_row a_t_who a_t_then a_t_best a_t_seenAs a_t_seenAt a_t_plan t_trace t_typed t_at t_start t_sort t_value t_fault t_rowLong t_homes t_bestValue t_seen t_planMany t_corners t_streets t_ends t_time t_home t_feet t_far t_now t_tried t_plan)) (As := [.int x1, .int (0 : Int32), .int (10 : Int32)]) (rest := []) (st1 := [.int u1]) S hK hA Wd (c_X10_in l D N cI cB cZ cM cJ cK x1 (0 : Int32) (10 : Int32)) (va_cwS 3 S.2.2.2.2 gX10_odds_X10_in rfl rfl rfl n_X10_in ⟨Nat.le_of_ble_eq_true rfl, Nat.le_of_ble_eq_true rfl⟩) hu1 [] rfl rfl rfl rfl rfl rfl hl.1 rfl (Nat.le_of_ble_eq_true rfl) dX10_odds_4 ⟨Nat.zero_le _, Nat.zero_le _⟩ (fun H locs Wd => ?_)
  refine lv_if_eq (tgt := 19) S.1 S.2.1 dX10_odds_7 rfl (fun c2 => ?_) (fun c2 => ?_)
  · have hf := g_if hf c2
    refine lv_iconst (v := (-1)) S.1 S.2.1 dX10_odds_19 (by decide) ?_
    exact g_iret S Wd hr hlk dX10_odds_20 ((-1 : Int32), t_tried) hf rfl rfl
  · have hf := g_ifn hf c2
    refine lv_iload_n S.1 S.2.1 dX10_odds_10 rfl (lv_at hl 2 rfl) ?_
    refine lv_iconst (v := 0) S.1 S.2.1 dX10_odds_11 (by decide) ?_
    refine lv_iconst (v := 1) S.1 S.2.1 dX10_odds_12 (by decide) ?_
    obtain ⟨u3, hu3, hf⟩ := g_bind hF hf
    refine g_callS (ws' := (wX10_odds cI cB cZ cM cJ cK  a_t a_t_text a_t_corners a_t_streets a_t_ends a_t_time a_t_leaders a_t_home a_t_feet a_t_far a_t_now a_t_isKept a_t_tried a_t_row a_t_who a_t_then a_t_best a_t_seenAs a_t_seenAt a_t_plan t_trace t_typed t_at t_start t_sort t_value t_fault t_rowLong t_homes t_bestValue t_seen t_planMany t_corners t_streets t_ends t_time t_home t_feet t_far t_now t_tried t_plan)) (As := [.int x2, .int (0 : Int32), .int (1 : Int32)]) (rest := []) (st1 := [.int u3]) S hK hA Wd (c_X10_in l D N cI cB cZ cM cJ cK x2 (0 : Int32) (1 : Int32)) (va_cwS 3 S.2.2.2.2 gX10_odds_X10_in rfl rfl rfl n_X10_in ⟨Nat.le_of_ble_eq_true rfl, Nat.le_of_ble_eq_true rfl⟩) hu3 [] rfl rfl rfl rfl rfl rfl hl.1 rfl (Nat.le_of_ble_eq_true rfl) dX10_odds_13 ⟨Nat.zero_le _, Nat.zero_le _⟩ (fun H locs Wd => ?_)
    refine lv_if_ne (tgt := 21) S.1 S.2.1 dX10_odds_16 rfl (fun c4 => ?_) (fun c4 => ?_)
    · have hf := g_ifn hf c4
      refine lv_aload_n S.1 S.2.1 dX10_odds_21 rfl (lv_at hl 0 rfl) ?_
      refine lv_iconst (v := 0) S.1 S.2.1 dX10_odds_22 (by decide) ?_
      obtain ⟨u5, hu5, hf⟩ := g_bind hF hf
      refine g_callV (ws' := (wX10_odds cI cB cZ cM cJ cK  a_t a_t_text a_t_corners a_t_streets a_t_ends a_t_time a_t_leaders a_t_home a_t_feet a_t_far a_t_now a_t_isKept a_t_tried a_t_row a_t_who a_t_then a_t_best a_t_seenAs a_t_seenAt a_t_plan t_trace t_typed t_at t_start t_sort t_value t_fault t_rowLong t_homes t_bestValue t_seen t_planMany t_corners t_streets t_ends t_time t_home t_feet t_far t_now u5.2 t_plan)) (As := [.int (0 : Int32)]) (rest := []) (st1 := [.int u5.1]) S hK hA Wd (c_X10_goPlan l D N cI cB cZ cM cJ cK a_t a_t_text a_t_corners a_t_streets a_t_ends a_t_time a_t_leaders a_t_home a_t_feet a_t_far a_t_now a_t_isKept a_t_tried a_t_row a_t_who a_t_then a_t_best a_t_seenAs a_t_seenAt a_t_plan t_trace t_typed t_at t_start t_sort t_value t_fault t_rowLong t_homes t_bestValue t_seen t_planMany t_streets t_ends t_time t_home t_feet t_far t_now t_tried t_plan (0 : Int32)) (cwV 1 S.2.2.2.2 gX10_odds_X10_goPlan rfl rfl rfl n_X10_goPlan ⟨Nat.le_of_ble_eq_true rfl, Nat.le_of_ble_eq_true rfl⟩) hu5 [0, 2, 3, 4, 5, 6, 7, 8, 9, 10] rfl rfl 0 10 rfl rfl rfl rfl rfl rfl rfl hl.1 rfl (Nat.le_of_ble_eq_true rfl) dX10_odds_23 ⟨Nat.zero_le _, Nat.zero_le _⟩ (fun H locs Wd => ?_)
      refine lv_istore_n (lv' := [(3, .int u5.1), (0, .ref a_t), (1, .int x1), (2, .int x2)]) S.1 S.2.1 dX10_odds_26 rfl hl (by decide) rfl (fun ls hl => ?_)
      refine lv_iconst (v := 0) S.1 S.2.1 dX10_odds_27 (by decide) ?_
      refine lv_istore (lv' := [(4, .int (0 : Int32)), (3, .int u5.1), (0, .ref a_t), (1, .int x1), (2, .int x2)]) S.1 S.2.1 dX10_odds_28 hl (by decide) rfl (fun ls hl => ?_)
      refine lv_iconst (v := 1) S.1 S.2.1 dX10_odds_30 (by decide) ?_
      refine lv_istore (lv' := [(5, .int (1 : Int32)), (4, .int (0 : Int32)), (3, .int u5.1), (0, .ref a_t), (1, .int x1), (2, .int x2)]) S.1 S.2.1 dX10_odds_31 hl (by decide) rfl (fun ls hl => ?_)
      refine lv_iconst (v := 0) S.1 S.2.1 dX10_odds_33 (by decide) ?_
      refine lv_istore (lv' := [(6, .int (0 : Int32)), (5, .int (1 : Int32)), (4, .int (0 : Int32)), (3, .int u5.1), (0, .ref a_t), (1, .int x1), (2, .int x2)]) S.1 S.2.1 dX10_odds_34 hl (by decide) rfl (fun ls hl => ?_)
      exact b36  N u5.2 u5.1 (0 : Int32) (1 : Int32) (0 : Int32) _ _ _ Wd (lv_sub hl [4, 5, 6, 3, 2, 1, 0] rfl) hf
    · have hf := g_if hf c4
      refine lv_iconst (v := (-1)) S.1 S.2.1 dX10_odds_19 (by decide) ?_
      exact g_iret S Wd hr hlk dX10_odds_20 ((-1 : Int32), t_tried) hf rfl rfl
def wX10_mark (cI cB cZ cM cJ cK : ClassId) (a_t a_t_text a_t_corners a_t_streets a_t_ends a_t_time a_t_leaders a_t_home a_t_feet a_t_far a_t_now a_t_isKept a_t_tried a_t_row a_t_who a_t_then a_t_best a_t_seenAs a_t_seenAt a_t_plan : Nat) (t_trace : Int64) (t_typed t_at t_start t_sort t_value t_fault t_rowLong t_homes t_bestValue t_seen t_planMany : Int32) (t_streets t_ends t_time t_now : Nat → Int32) : List va_W := [[(a_t, .inr (10, [.long t_trace, .ref a_t_text, .int t_typed, .ref a_t_corners, .ref a_t_streets, .ref a_t_ends, .ref a_t_time, .ref a_t_leaders, .ref a_t_home, .ref a_t_feet, .int t_at, .int t_start, .int t_sort, .int t_value, .int t_fault, .ref a_t_far, .ref a_t_now, .ref a_t_isKept, .ref a_t_tried, .ref a_t_row, .int t_rowLong, .ref a_t_who, .ref a_t_then, .int t_homes, .ref a_t_best, .int t_bestValue, .ref a_t_seenAs, .ref a_t_seenAt, .int t_seen, .ref a_t_plan, .int t_planMany]))], [(a_t_streets, .inl (cI, 2, .inl t_streets))], [(a_t_ends, .inl (cI, 48, .inl t_ends))], [(a_t_time, .inl (cI, 24, .inl t_time))], [(a_t_now, .inl (cI, 564, .inl t_now))]]
def rmX10_mark : Room := { frames := 2, cells := 0, slots := 0, locals := 43 }
theorem kX10_mark_1 : Cond.constant RX10 197 (-1000000) ∈ wsX10_mark := List.mem_of_getElem? (i := 1) rfl
theorem kX10_mark_10 : Cond.constantLong RX10 210 (100001) ∈ wsX10_mark := List.mem_of_getElem? (i := 10) rfl
theorem kX10_mark_2 : Cond.fieldLink RX10 38 "FeastMarchModel" "now" "[I" ∈ wsX10_mark := List.mem_of_getElem? (i := 2) rfl
theorem kX10_mark_3 : Cond.fieldLink RX10 23 "FeastMarchModel" "time" "[I" ∈ wsX10_mark := List.mem_of_getElem? (i := 3) rfl
theorem kX10_mark_4 : Cond.fieldLink RX10 20 "FeastMarchModel" "ends" "[I" ∈ wsX10_mark := List.mem_of_getElem? (i := 4) rfl
theorem kX10_mark_5 : Cond.fieldLink RX10 198 "FeastMarchModel" "trace" "J" ∈ wsX10_mark := List.mem_of_getElem? (i := 5) rfl
theorem kX10_mark_6 : Cond.constantLong RX10 202 (11) ∈ wsX10_mark := List.mem_of_getElem? (i := 6) rfl
theorem kX10_mark_7 : Cond.constantLong RX10 204 (101) ∈ wsX10_mark := List.mem_of_getElem? (i := 7) rfl
theorem kX10_mark_8 : Cond.constantLong RX10 206 (1011) ∈ wsX10_mark := List.mem_of_getElem? (i := 8) rfl
theorem kX10_mark_9 : Cond.constantLong RX10 208 (10101) ∈ wsX10_mark := List.mem_of_getElem? (i := 9) rfl
theorem iX10_mark_X10 : ∀ w ∈ wsX100, w ∈ wsX10_mark := fun _ h => List.mem_cons_of_mem _ (List.mem_append_right _ h)
theorem n_X10_mark : yX10_mark.cls = RX10 ∧ yX10_mark.cls ≠ "java/lang/invoke/MethodHandle" ∧ yX10_mark.cls ≠ "java/lang/invoke/VarHandle" ∧ (parseMethodDescriptor yX10_mark.desc).map (fun d => d.parameters.length) = some 2 := by decide +kernel
set_option maxHeartbeats 4000000 in
set_option maxRecDepth 100000 in
theorem c_X10_mark (l : Launch) (D : va_G) (N : Nat) (cI cB cZ cM cJ cK : ClassId) (a_t a_t_text a_t_corners a_t_streets a_t_ends a_t_time a_t_leaders a_t_home a_t_feet a_t_far a_t_now a_t_isKept a_t_tried a_t_row a_t_who a_t_then a_t_best a_t_seenAs a_t_seenAt a_t_plan : Nat) (t_trace : Int64) (t_typed t_at t_start t_sort t_value t_fault t_rowLong t_homes t_bestValue t_seen t_planMany : Int32) (t_streets t_ends t_time t_now : Nat → Int32) (x1 x2 : Int32) : gM l yX10_mark wsX10_mark rmX10_mark D (gT cI cB cZ cM cJ cK) (wX10_mark cI cB cZ cM cJ cK  a_t a_t_text a_t_corners a_t_streets a_t_ends a_t_time a_t_leaders a_t_home a_t_feet a_t_far a_t_now a_t_isKept a_t_tried a_t_row a_t_who a_t_then a_t_best a_t_seenAs a_t_seenAt a_t_plan t_trace t_typed t_at t_start t_sort t_value t_fault t_rowLong t_homes t_bestValue t_seen t_planMany t_streets t_ends t_time t_now) [.ref a_t, .int x1, .int x2] (fX10_mark N t_trace t_streets t_ends t_time t_now x1 x2) (fun _u : Int32 × Int64 => some (.int _u.1)) (fun _u : Int32 × Int64 => (wX10_mark cI cB cZ cM cJ cK  a_t a_t_text a_t_corners a_t_streets a_t_ends a_t_time a_t_leaders a_t_home a_t_feet a_t_far a_t_now a_t_isKept a_t_tried a_t_row a_t_who a_t_then a_t_best a_t_seenAs a_t_seenAt a_t_plan _u.2 t_typed t_at t_start t_sort t_value t_fault t_rowLong t_homes t_bestValue t_seen t_planMany t_streets t_ends t_time t_now)) := by
  refine g_start (cc := cX10_mark) (maxL := 5) (ret := (some .int)) (by decide) rfl (Nat.le_of_ble_eq_true rfl) ?_
  intro F hf hF p e s m below meth c A ls S hK hA Wd hr hlk hnm hl
  refine lv_iload_n S.1 S.2.1 dX10_mark_0 rfl (lv_at hl 1 rfl) ?_
  refine lv_iconst (v := 0) S.1 S.2.1 dX10_mark_1 (by decide) ?_
  refine lv_iconst (v := 5) S.1 S.2.1 dX10_mark_2 (by decide) ?_
  obtain ⟨u1, hu1, hf⟩ := g_bind hF hf
  refine g_callS (ws' := (wX10_mark cI cB cZ cM cJ cK  a_t a_t_text a_t_corners a_t_streets a_t_ends a_t_time a_t_leaders a_t_home a_t_feet a_t_far a_t_now a_t_isKept a_t_tried a_t_row a_t_who a_t_then a_t_best a_t_seenAs a_t_seenAt a_t_plan t_trace t_typed t_at t_start t_sort t_value t_fault t_rowLong t_homes t_bestValue t_seen t_planMany t_streets t_ends t_time t_now)) (As := [.int x1, .int (0 : Int32), .int (5 : Int32)]) (rest := []) (st1 := [.int u1]) S hK hA Wd (c_X10_in l D N cI cB cZ cM cJ cK x1 (0 : Int32) (5 : Int32)) (va_cwS 3 S.2.2.2.2 gX10_mark_X10_in rfl rfl rfl n_X10_in ⟨Nat.le_of_ble_eq_true rfl, Nat.le_of_ble_eq_true rfl⟩) hu1 [] rfl rfl rfl rfl rfl rfl hl.1 rfl (Nat.le_of_ble_eq_true rfl) dX10_mark_3 ⟨Nat.zero_le _, Nat.zero_le _⟩ (fun H locs Wd => ?_)
  refine lv_if_eq (tgt := 17) S.1 S.2.1 dX10_mark_6 rfl (fun c2 => ?_) (fun c2 => ?_)
  · have hf := g_if hf c2
    refine lv_ldc S.1 S.2.1 S.2.2.2.1 (S.2.2.2.2 _ kX10_mark_1) dX10_mark_17 ?_
    exact g_iret S Wd hr hlk dX10_mark_19 ((-1000000 : Int32), t_trace) hf rfl rfl
  · have hf := g_ifn hf c2
    refine lv_aload_n S.1 S.2.1 dX10_mark_9 rfl (lv_at hl 0 rfl) ?_
    refine lv_iload_n S.1 S.2.1 dX10_mark_10 rfl (lv_at hl 2 rfl) ?_
    obtain ⟨u3, hu3, hf⟩ := g_bind hF hf
    refine g_callV (ws' := (wX10_mark cI cB cZ cM cJ cK  a_t a_t_text a_t_corners a_t_streets a_t_ends a_t_time a_t_leaders a_t_home a_t_feet a_t_far a_t_now a_t_isKept a_t_tried a_t_row a_t_who a_t_then a_t_best a_t_seenAs a_t_seenAt a_t_plan t_trace t_typed t_at t_start t_sort t_value t_fault t_rowLong t_homes t_bestValue t_seen t_planMany t_streets t_ends t_time t_now)) (As := [.int x2]) (rest := []) (st1 := [.int u3]) S hK hA Wd (c_X10_isStreet l D N cI cB cZ cM cJ cK a_t a_t_text a_t_corners a_t_streets a_t_ends a_t_time a_t_leaders a_t_home a_t_feet a_t_far a_t_now a_t_isKept a_t_tried a_t_row a_t_who a_t_then a_t_best a_t_seenAs a_t_seenAt a_t_plan t_trace t_typed t_at t_start t_sort t_value t_fault t_rowLong t_homes t_bestValue t_seen t_planMany t_streets x2) (cwV 1 S.2.2.2.2 gX10_mark_X10_isStreet rfl rfl rfl n_X10_isStreet ⟨Nat.le_of_ble_eq_true rfl, Nat.le_of_ble_eq_true rfl⟩) hu3 [0, 1] rfl rfl 0 10 rfl rfl rfl rfl rfl rfl rfl hl.1 rfl (Nat.le_of_ble_eq_true rfl) dX10_mark_11 ⟨Nat.zero_le _, Nat.zero_le _⟩ (fun H locs Wd => ?_)
    refine lv_if_ne (tgt := 20) S.1 S.2.1 dX10_mark_14 rfl (fun c4 => ?_) (fun c4 => ?_)
    · have hf := g_ifn hf c4
      refine lv_aload_n S.1 S.2.1 dX10_mark_20 rfl (lv_at hl 0 rfl) ?_
      refine g_get (a := a_t) S hK Wd iX10_mark_X10 0 rfl rfl 16 rfl rfl kX10_mark_2 rfl dX10_mark_21 ?_
      refine lv_iconst (v := 5) S.1 S.2.1 dX10_mark_24 (by decide) ?_
      refine lv_iload_n S.1 S.2.1 dX10_mark_25 rfl (lv_at hl 2 rfl) ?_
      refine lv_iadd S.1 S.2.1 dX10_mark_26 ?_
      obtain ⟨h5, hf⟩ := g_gi hF hf
      refine g_iald (a := a_t_now) S hK Wd 4 0 rfl rfl h5 dX10_mark_27 ?_
      obtain ⟨u6, hu6, hf⟩ := g_bind hF hf
      refine g_callS (ws' := (wX10_mark cI cB cZ cM cJ cK  a_t a_t_text a_t_corners a_t_streets a_t_ends a_t_time a_t_leaders a_t_home a_t_feet a_t_far a_t_now a_t_isKept a_t_tried a_t_row a_t_who a_t_then a_t_best a_t_seenAs a_t_seenAt a_t_plan t_trace t_typed t_at t_start t_sort t_value t_fault t_rowLong t_homes t_bestValue t_seen t_planMany t_streets t_ends t_time t_now)) (As := [.int (t_now ((5 : Int32) + x2).toNatClampNeg)]) (rest := []) (st1 := [.int u6]) S hK hA Wd (c_X10_manyOf l D N cI cB cZ cM cJ cK (t_now ((5 : Int32) + x2).toNatClampNeg)) (va_cwS 1 S.2.2.2.2 gX10_mark_X10_manyOf rfl rfl rfl n_X10_manyOf ⟨Nat.le_of_ble_eq_true rfl, Nat.le_of_ble_eq_true rfl⟩) hu6 [] rfl rfl rfl rfl rfl rfl hl.1 rfl (Nat.le_of_ble_eq_true rfl) dX10_mark_28 ⟨Nat.zero_le _, Nat.zero_le _⟩ (fun H locs Wd => ?_)
      refine lv_istore_n (lv' := [(3, .int u6), (0, .ref a_t), (1, .int x1), (2, .int x2)]) S.1 S.2.1 dX10_mark_31 rfl hl (by decide) rfl (fun ls hl => ?_)
      refine lv_aload_n S.1 S.2.1 dX10_mark_32 rfl (lv_at hl 1 rfl) ?_
      refine g_get (a := a_t) S hK Wd iX10_mark_X10 0 rfl rfl 6 rfl rfl kX10_mark_3 rfl dX10_mark_33 ?_
      refine lv_iload_n S.1 S.2.1 dX10_mark_36 rfl (lv_at hl 3 rfl) ?_
      obtain ⟨h7, hf⟩ := g_gi hF hf
      refine g_iald (a := a_t_time) S hK Wd 3 0 rfl rfl h7 dX10_mark_37 ?_
      refine lv_aload_n S.1 S.2.1 dX10_mark_38 rfl (lv_at hl 1 rfl) ?_
      refine g_get (a := a_t) S hK Wd iX10_mark_X10 0 rfl rfl 5 rfl rfl kX10_mark_4 rfl dX10_mark_39 ?_
      refine lv_iconst (v := 2) S.1 S.2.1 dX10_mark_42 (by decide) ?_
      refine lv_iload_n S.1 S.2.1 dX10_mark_43 rfl (lv_at hl 3 rfl) ?_
      refine lv_imul S.1 S.2.1 dX10_mark_44 ?_
      refine lv_iconst (v := 1) S.1 S.2.1 dX10_mark_45 (by decide) ?_
      refine lv_iadd S.1 S.2.1 dX10_mark_46 ?_
      obtain ⟨h8, hf⟩ := g_gi hF hf
      refine g_iald (a := a_t_ends) S hK Wd 2 0 rfl rfl h8 dX10_mark_47 ?_
      refine lv_isub S.1 S.2.1 dX10_mark_48 ?_
      refine lv_istore (lv' := [(4, .int ((t_time x2.toNatClampNeg) - (t_ends (((2 : Int32) * x2) + (1 : Int32)).toNatClampNeg))), (3, .int u6), (0, .ref a_t), (1, .int x1), (2, .int x2)]) S.1 S.2.1 dX10_mark_49 hl (by decide) rfl (fun ls hl => ?_)
      refine lv_iload_n S.1 S.2.1 dX10_mark_51 rfl (lv_at hl 3 rfl) ?_
      by_cases c9 : x1 = (0 : Int32)
      · have hf := g_if hf c9
        refine g_tabIn (tgt := 88) (off := 36) S c9 dX10_mark_52 (by decide) (by decide) (by decide) rfl ?_
        refine lv_aload_n S.1 S.2.1 dX10_mark_88 rfl (lv_at hl 2 rfl) ?_
        refine lv_dup S.1 S.2.1 dX10_mark_89 rfl ?_
        refine g_get (a := a_t) S hK Wd iX10_mark_X10 0 rfl rfl 0 rfl rfl kX10_mark_5 rfl dX10_mark_90 ?_
        refine lv_lconst (v := 1) S.1 S.2.1 dX10_mark_93 (by decide) ?_
        refine lv_ladd S.1 S.2.1 dX10_mark_94 ?_
        refine g_put (a := a_t) (ws' := (wX10_mark cI cB cZ cM cJ cK  a_t a_t_text a_t_corners a_t_streets a_t_ends a_t_time a_t_leaders a_t_home a_t_feet a_t_far a_t_now a_t_isKept a_t_tried a_t_row a_t_who a_t_then a_t_best a_t_seenAs a_t_seenAt a_t_plan (t_trace + (1 : Int64)) t_typed t_at t_start t_sort t_value t_fault t_rowLong t_homes t_bestValue t_seen t_planMany t_streets t_ends t_time t_now)) S hK Wd iX10_mark_X10 tyX10 tyX10_ok nmX10 0 rfl rfl 0 rfl rfl kX10_mark_5 rfl rfl rfl dX10_mark_95 rfl (fun H locs Wd => ?_)
        refine lv_aload_n S.1 S.2.1 dX10_mark_98 rfl (lv_at hl 2 rfl) ?_
        refine g_get (a := a_t) S hK Wd iX10_mark_X10 0 rfl rfl 6 rfl rfl kX10_mark_3 rfl dX10_mark_99 ?_
        refine lv_iload_n S.1 S.2.1 dX10_mark_102 rfl (lv_at hl 4 rfl) ?_
        obtain ⟨h10, hf⟩ := g_gi hF hf
        refine g_iald (a := a_t_time) S hK Wd 3 0 rfl rfl h10 dX10_mark_103 ?_
        exact g_iret S Wd hr hlk dX10_mark_104 ((t_time x2.toNatClampNeg), (t_trace + (1 : Int64))) hf rfl rfl
      have hf := g_ifn hf c9
      by_cases c11 : x1 = (1 : Int32)
      · have hf := g_if hf c11
        refine g_tabIn (tgt := 105) (off := 53) S c11 dX10_mark_52 (by decide) (by decide) (by decide) rfl ?_
        refine lv_aload_n S.1 S.2.1 dX10_mark_105 rfl (lv_at hl 2 rfl) ?_
        refine lv_dup S.1 S.2.1 dX10_mark_106 rfl ?_
        refine g_get (a := a_t) S hK Wd iX10_mark_X10 0 rfl rfl 0 rfl rfl kX10_mark_5 rfl dX10_mark_107 ?_
        refine lv_ldc2 S.1 S.2.1 S.2.2.2.1 (S.2.2.2.2 _ kX10_mark_6) dX10_mark_110 ?_
        refine lv_ladd S.1 S.2.1 dX10_mark_113 ?_
        refine g_put (a := a_t) (ws' := (wX10_mark cI cB cZ cM cJ cK  a_t a_t_text a_t_corners a_t_streets a_t_ends a_t_time a_t_leaders a_t_home a_t_feet a_t_far a_t_now a_t_isKept a_t_tried a_t_row a_t_who a_t_then a_t_best a_t_seenAs a_t_seenAt a_t_plan (t_trace + (11 : Int64)) t_typed t_at t_start t_sort t_value t_fault t_rowLong t_homes t_bestValue t_seen t_planMany t_streets t_ends t_time t_now)) S hK Wd iX10_mark_X10 tyX10 tyX10_ok nmX10 0 rfl rfl 0 rfl rfl kX10_mark_5 rfl rfl rfl dX10_mark_114 rfl (fun H locs Wd => ?_)
        refine lv_aload_n S.1 S.2.1 dX10_mark_117 rfl (lv_at hl 2 rfl) ?_
        refine g_get (a := a_t) S hK Wd iX10_mark_X10 0 rfl rfl 6 rfl rfl kX10_mark_3 rfl dX10_mark_118 ?_
        refine lv_iload_n S.1 S.2.1 dX10_mark_121 rfl (lv_at hl 4 rfl) ?_
        obtain ⟨h12, hf⟩ := g_gi hF hf
        refine g_iald (a := a_t_time) S hK Wd 3 0 rfl rfl h12 dX10_mark_122 ?_
        refine lv_iload_n S.1 S.2.1 dX10_mark_123 rfl (lv_at hl 1 rfl) ?_
        refine lv_iadd S.1 S.2.1 dX10_mark_124 ?_
        exact g_iret S Wd hr hlk dX10_mark_125 (((t_time x2.toNatClampNeg) + u6), (t_trace + (11 : Int64))) hf rfl rfl
      have hf := g_ifn hf c11
      by_cases c13 : x1 = (2 : Int32)
      · have hf := g_if hf c13
        refine g_tabIn (tgt := 126) (off := 74) S c13 dX10_mark_52 (by decide) (by decide) (by decide) rfl ?_
        refine lv_aload_n S.1 S.2.1 dX10_mark_126 rfl (lv_at hl 2 rfl) ?_
        refine lv_dup S.1 S.2.1 dX10_mark_127 rfl ?_
        refine g_get (a := a_t) S hK Wd iX10_mark_X10 0 rfl rfl 0 rfl rfl kX10_mark_5 rfl dX10_mark_128 ?_
        refine lv_ldc2 S.1 S.2.1 S.2.2.2.1 (S.2.2.2.2 _ kX10_mark_7) dX10_mark_131 ?_
        refine lv_ladd S.1 S.2.1 dX10_mark_134 ?_
        refine g_put (a := a_t) (ws' := (wX10_mark cI cB cZ cM cJ cK  a_t a_t_text a_t_corners a_t_streets a_t_ends a_t_time a_t_leaders a_t_home a_t_feet a_t_far a_t_now a_t_isKept a_t_tried a_t_row a_t_who a_t_then a_t_best a_t_seenAs a_t_seenAt a_t_plan (t_trace + (101 : Int64)) t_typed t_at t_start t_sort t_value t_fault t_rowLong t_homes t_bestValue t_seen t_planMany t_streets t_ends t_time t_now)) S hK Wd iX10_mark_X10 tyX10 tyX10_ok nmX10 0 rfl rfl 0 rfl rfl kX10_mark_5 rfl rfl rfl dX10_mark_135 rfl (fun H locs Wd => ?_)
        refine lv_iload S.1 S.2.1 dX10_mark_138 (lv_at hl 0 rfl) ?_
        exact g_iret S Wd hr hlk dX10_mark_140 (((t_time x2.toNatClampNeg) - (t_ends (((2 : Int32) * x2) + (1 : Int32)).toNatClampNeg)), (t_trace + (101 : Int64))) hf rfl rfl
      have hf := g_ifn hf c13
      by_cases c14 : x1 = (3 : Int32)
      · have hf := g_if hf c14
        refine g_tabIn (tgt := 141) (off := 89) S c14 dX10_mark_52 (by decide) (by decide) (by decide) rfl ?_
        refine lv_aload_n S.1 S.2.1 dX10_mark_141 rfl (lv_at hl 2 rfl) ?_
        refine lv_dup S.1 S.2.1 dX10_mark_142 rfl ?_
        refine g_get (a := a_t) S hK Wd iX10_mark_X10 0 rfl rfl 0 rfl rfl kX10_mark_5 rfl dX10_mark_143 ?_
        refine lv_ldc2 S.1 S.2.1 S.2.2.2.1 (S.2.2.2.2 _ kX10_mark_8) dX10_mark_146 ?_
        refine lv_ladd S.1 S.2.1 dX10_mark_149 ?_
        refine g_put (a := a_t) (ws' := (wX10_mark cI cB cZ cM cJ cK  a_t a_t_text a_t_corners a_t_streets a_t_ends a_t_time a_t_leaders a_t_home a_t_feet a_t_far a_t_now a_t_isKept a_t_tried a_t_row a_t_who a_t_then a_t_best a_t_seenAs a_t_seenAt a_t_plan (t_trace + (1011 : Int64)) t_typed t_at t_start t_sort t_value t_fault t_rowLong t_homes t_bestValue t_seen t_planMany t_streets t_ends t_time t_now)) S hK Wd iX10_mark_X10 tyX10 tyX10_ok nmX10 0 rfl rfl 0 rfl rfl kX10_mark_5 rfl rfl rfl dX10_mark_150 rfl (fun H locs Wd => ?_)
        refine lv_iconst (v := 2) S.1 S.2.1 dX10_mark_153 (by decide) ?_
        refine lv_aload_n S.1 S.2.1 dX10_mark_154 rfl (lv_at hl 2 rfl) ?_
        refine g_get (a := a_t) S hK Wd iX10_mark_X10 0 rfl rfl 6 rfl rfl kX10_mark_3 rfl dX10_mark_155 ?_
        refine lv_iload_n S.1 S.2.1 dX10_mark_158 rfl (lv_at hl 4 rfl) ?_
        obtain ⟨h15, hf⟩ := g_gi hF hf
        refine g_iald (a := a_t_time) S hK Wd 3 0 rfl rfl h15 dX10_mark_159 ?_
        refine lv_iload_n S.1 S.2.1 dX10_mark_160 rfl (lv_at hl 1 rfl) ?_
        refine lv_iadd S.1 S.2.1 dX10_mark_161 ?_
        refine lv_imul S.1 S.2.1 dX10_mark_162 ?_
        exact g_iret S Wd hr hlk dX10_mark_163 (((2 : Int32) * ((t_time x2.toNatClampNeg) + u6)), (t_trace + (1011 : Int64))) hf rfl rfl
      have hf := g_ifn hf c14
      by_cases c16 : x1 = (4 : Int32)
      · have hf := g_if hf c16
        refine g_tabIn (tgt := 164) (off := 112) S c16 dX10_mark_52 (by decide) (by decide) (by decide) rfl ?_
        refine lv_aload_n S.1 S.2.1 dX10_mark_164 rfl (lv_at hl 2 rfl) ?_
        refine lv_dup S.1 S.2.1 dX10_mark_165 rfl ?_
        refine g_get (a := a_t) S hK Wd iX10_mark_X10 0 rfl rfl 0 rfl rfl kX10_mark_5 rfl dX10_mark_166 ?_
        refine lv_ldc2 S.1 S.2.1 S.2.2.2.1 (S.2.2.2.2 _ kX10_mark_9) dX10_mark_169 ?_
        refine lv_ladd S.1 S.2.1 dX10_mark_172 ?_
        refine g_put (a := a_t) (ws' := (wX10_mark cI cB cZ cM cJ cK  a_t a_t_text a_t_corners a_t_streets a_t_ends a_t_time a_t_leaders a_t_home a_t_feet a_t_far a_t_now a_t_isKept a_t_tried a_t_row a_t_who a_t_then a_t_best a_t_seenAs a_t_seenAt a_t_plan (t_trace + (10101 : Int64)) t_typed t_at t_start t_sort t_value t_fault t_rowLong t_homes t_bestValue t_seen t_planMany t_streets t_ends t_time t_now)) S hK Wd iX10_mark_X10 tyX10 tyX10_ok nmX10 0 rfl rfl 0 rfl rfl kX10_mark_5 rfl rfl rfl dX10_mark_173 rfl (fun H locs Wd => ?_)
        refine lv_iload S.1 S.2.1 dX10_mark_176 (lv_at hl 0 rfl) ?_
        refine lv_aload_n S.1 S.2.1 dX10_mark_178 rfl (lv_at hl 2 rfl) ?_
        refine g_get (a := a_t) S hK Wd iX10_mark_X10 0 rfl rfl 16 rfl rfl kX10_mark_2 rfl dX10_mark_179 ?_
        refine lv_iconst (v := 2) S.1 S.2.1 dX10_mark_182 (by decide) ?_
        refine g_iald (a := a_t_now) S hK Wd 4 0 rfl rfl (show ¬ (((2 : Int32) < 0) ∨ 564 ≤ Int32.toNatClampNeg (2 : Int32)) from by decide) dX10_mark_183 ?_
        refine lv_iadd S.1 S.2.1 dX10_mark_184 ?_
        exact g_iret S Wd hr hlk dX10_mark_185 ((((t_time x2.toNatClampNeg) - (t_ends (((2 : Int32) * x2) + (1 : Int32)).toNatClampNeg)) + (t_now (2 : Int32).toNatClampNeg)), (t_trace + (10101 : Int64))) hf rfl rfl
      have hf := g_ifn hf c16
      refine lv_tableOut (tgt := 186) S.1 S.2.1 dX10_mark_52 ?_ rfl ?_
      · have q0 : (x1).toInt < 0 ∨ 4 < (x1).toInt := by
          have z0 : (x1).toInt ≠ 0 := fun e => g_ne c9 (e.trans (by decide))
          have z1 : (x1).toInt ≠ 1 := fun e => g_ne c11 (e.trans (by decide))
          have z2 : (x1).toInt ≠ 2 := fun e => g_ne c13 (e.trans (by decide))
          have z3 : (x1).toInt ≠ 3 := fun e => g_ne c14 (e.trans (by decide))
          have z4 : (x1).toInt ≠ 4 := fun e => g_ne c16 (e.trans (by decide))
          omega
        exact q0
      refine lv_aload_n S.1 S.2.1 dX10_mark_186 rfl (lv_at hl 2 rfl) ?_
      refine lv_dup S.1 S.2.1 dX10_mark_187 rfl ?_
      refine g_get (a := a_t) S hK Wd iX10_mark_X10 0 rfl rfl 0 rfl rfl kX10_mark_5 rfl dX10_mark_188 ?_
      refine lv_ldc2 S.1 S.2.1 S.2.2.2.1 (S.2.2.2.2 _ kX10_mark_10) dX10_mark_191 ?_
      refine lv_ladd S.1 S.2.1 dX10_mark_194 ?_
      refine g_put (a := a_t) (ws' := (wX10_mark cI cB cZ cM cJ cK  a_t a_t_text a_t_corners a_t_streets a_t_ends a_t_time a_t_leaders a_t_home a_t_feet a_t_far a_t_now a_t_isKept a_t_tried a_t_row a_t_who a_t_then a_t_best a_t_seenAs a_t_seenAt a_t_plan (t_trace + (100001 : Int64)) t_typed t_at t_start t_sort t_value t_fault t_rowLong t_homes t_bestValue t_seen t_planMany t_streets t_ends t_time t_now)) S hK Wd iX10_mark_X10 tyX10 tyX10_ok nmX10 0 rfl rfl 0 rfl rfl kX10_mark_5 rfl rfl rfl dX10_mark_195 rfl (fun H locs Wd => ?_)
      refine lv_aload_n S.1 S.2.1 dX10_mark_198 rfl (lv_at hl 2 rfl) ?_
      refine g_get (a := a_t) S hK Wd iX10_mark_X10 0 rfl rfl 6 rfl rfl kX10_mark_3 rfl dX10_mark_199 ?_
      refine lv_iload_n S.1 S.2.1 dX10_mark_202 rfl (lv_at hl 4 rfl) ?_
      obtain ⟨h17, hf⟩ := g_gi hF hf
      refine g_iald (a := a_t_time) S hK Wd 3 0 rfl rfl h17 dX10_mark_203 ?_
      refine lv_aload_n S.1 S.2.1 dX10_mark_204 rfl (lv_at hl 2 rfl) ?_
      refine g_get (a := a_t) S hK Wd iX10_mark_X10 0 rfl rfl 16 rfl rfl kX10_mark_2 rfl dX10_mark_205 ?_
      refine lv_iconst (v := 1) S.1 S.2.1 dX10_mark_208 (by decide) ?_
      refine g_iald (a := a_t_now) S hK Wd 4 0 rfl rfl (show ¬ (((1 : Int32) < 0) ∨ 564 ≤ Int32.toNatClampNeg (1 : Int32)) from by decide) dX10_mark_209 ?_
      refine lv_iadd S.1 S.2.1 dX10_mark_210 ?_
      exact g_iret S Wd hr hlk dX10_mark_211 (((t_time x2.toNatClampNeg) + (t_now (1 : Int32).toNatClampNeg)), (t_trace + (100001 : Int64))) hf rfl rfl
    · have hf := g_if hf c4
      refine lv_ldc S.1 S.2.1 S.2.2.2.1 (S.2.2.2.2 _ kX10_mark_1) dX10_mark_17 ?_
      exact g_iret S Wd hr hlk dX10_mark_19 ((-1000000 : Int32), t_trace) hf rfl rfl
def wX10_keep (cI cB cZ cM cJ cK : ClassId) (a_t a_t_text a_t_corners a_t_streets a_t_ends a_t_time a_t_leaders a_t_home a_t_feet a_t_far a_t_now a_t_isKept a_t_tried a_t_row a_t_who a_t_then a_t_best a_t_seenAs a_t_seenAt a_t_plan : Nat) (t_trace : Int64) (t_typed t_at t_start t_sort t_value t_fault t_rowLong t_homes t_bestValue t_seen t_planMany : Int32) (t_now t_isKept : Nat → Int32) : List va_W := [[(a_t, .inr (10, [.long t_trace, .ref a_t_text, .int t_typed, .ref a_t_corners, .ref a_t_streets, .ref a_t_ends, .ref a_t_time, .ref a_t_leaders, .ref a_t_home, .ref a_t_feet, .int t_at, .int t_start, .int t_sort, .int t_value, .int t_fault, .ref a_t_far, .ref a_t_now, .ref a_t_isKept, .ref a_t_tried, .ref a_t_row, .int t_rowLong, .ref a_t_who, .ref a_t_then, .int t_homes, .ref a_t_best, .int t_bestValue, .ref a_t_seenAs, .ref a_t_seenAt, .int t_seen, .ref a_t_plan, .int t_planMany]))], [(a_t_now, .inl (cI, 564, .inl t_now))], [(a_t_isKept, .inl (cZ, 2, .inl t_isKept))]]
def rmX10_keep : Room := { frames := 1, cells := 0, slots := 0, locals := 22 }
theorem kX10_keep_1 : Cond.fieldLink RX10 38 "FeastMarchModel" "now" "[I" ∈ wsX10_keep := List.mem_of_getElem? (i := 1) rfl
theorem kX10_keep_2 : Cond.fieldLink RX10 41 "FeastMarchModel" "isKept" "[Z" ∈ wsX10_keep := List.mem_of_getElem? (i := 2) rfl
theorem iX10_keep_X10 : ∀ w ∈ wsX100, w ∈ wsX10_keep := fun _ h => List.mem_cons_of_mem _ (List.mem_append_right _ h)
theorem n_X10_keep : yX10_keep.cls = RX10 ∧ yX10_keep.cls ≠ "java/lang/invoke/MethodHandle" ∧ yX10_keep.cls ≠ "java/lang/invoke/VarHandle" ∧ (parseMethodDescriptor yX10_keep.desc).map (fun d => d.parameters.length) = some 1 := by decide +kernel
set_option maxHeartbeats 4000000 in
set_option maxRecDepth 100000 in
theorem c_X10_keep (l : Launch) (D : va_G) (N : Nat) (cI cB cZ cM cJ cK : ClassId) (a_t a_t_text a_t_corners a_t_streets a_t_ends a_t_time a_t_leaders a_t_home a_t_feet a_t_far a_t_now a_t_isKept a_t_tried a_t_row a_t_who a_t_then a_t_best a_t_seenAs a_t_seenAt a_t_plan : Nat) (t_trace : Int64) (t_typed t_at t_start t_sort t_value t_fault t_rowLong t_homes t_bestValue t_seen t_planMany : Int32) (t_now t_isKept : Nat → Int32) (x1 : Int32) : gM l yX10_keep wsX10_keep rmX10_keep D (gT cI cB cZ cM cJ cK) (wX10_keep cI cB cZ cM cJ cK  a_t a_t_text a_t_corners a_t_streets a_t_ends a_t_time a_t_leaders a_t_home a_t_feet a_t_far a_t_now a_t_isKept a_t_tried a_t_row a_t_who a_t_then a_t_best a_t_seenAs a_t_seenAt a_t_plan t_trace t_typed t_at t_start t_sort t_value t_fault t_rowLong t_homes t_bestValue t_seen t_planMany t_now t_isKept) [.ref a_t, .int x1] (fX10_keep N t_now t_isKept x1) (fun _u : Int32 × (Nat → Int32) × (Nat → Int32) => some (.int _u.1)) (fun _u : Int32 × (Nat → Int32) × (Nat → Int32) => (wX10_keep cI cB cZ cM cJ cK  a_t a_t_text a_t_corners a_t_streets a_t_ends a_t_time a_t_leaders a_t_home a_t_feet a_t_far a_t_now a_t_isKept a_t_tried a_t_row a_t_who a_t_then a_t_best a_t_seenAs a_t_seenAt a_t_plan t_trace t_typed t_at t_start t_sort t_value t_fault t_rowLong t_homes t_bestValue t_seen t_planMany _u.2.1 _u.2.2)) := by
  refine g_start (cc := cX10_keep) (maxL := 3) (ret := (some .int)) (by decide) rfl (Nat.le_of_ble_eq_true rfl) ?_
  intro F hf hF p e s m below meth c A ls S hK hA Wd hr hlk hnm hl
  have b13 : ∀ (n : Nat), ∀ (t_now t_isKept : Nat → Int32) (x2 : Int32) (H1 : Heap) (locs1 : List Loc) (ls1 : Array Slot), gw D A s.heap (wX10_keep cI cB cZ cM cJ cK  a_t a_t_text a_t_corners a_t_streets a_t_ends a_t_time a_t_leaders a_t_home a_t_feet a_t_far a_t_now a_t_isKept a_t_tried a_t_row a_t_who a_t_then a_t_best a_t_seenAs a_t_seenAt a_t_plan t_trace t_typed t_at t_start t_sort t_value t_fault t_rowLong t_homes t_bestValue t_seen t_planMany t_now t_isKept) H1 locs1 → lv_has ls1 3 [(0, .ref a_t), (1, .int x1), (2, .int x2)] → F = fX10_keep_b13 N x1  n t_now t_isKept x2 → W p l e rmX10_keep s m [.ref a_t, .int x1].toArray below meth c H1 locs1 0 0 (MQ below (gQ F (fun _u : Int32 × (Nat → Int32) × (Nat → Int32) => some (.int _u.1)) (fun _u : Int32 × (Nat → Int32) × (Nat → Int32) => (wX10_keep cI cB cZ cM cJ cK  a_t a_t_text a_t_corners a_t_streets a_t_ends a_t_time a_t_leaders a_t_home a_t_feet a_t_far a_t_now a_t_isKept a_t_tried a_t_row a_t_who a_t_then a_t_best a_t_seenAs a_t_seenAt a_t_plan t_trace t_typed t_at t_start t_sort t_value t_fault t_rowLong t_homes t_bestValue t_seen t_planMany _u.2.1 _u.2.2)) D A) [.ref a_t, .int x1].toArray s 0 0 A) (F0 m 13 ls1 []) := by
    intro  n
    induction n with
    | zero => intro t_now t_isKept x2 H locs ls Wd hl hf; exact absurd hf hF
    | succ n ih =>
      intro t_now t_isKept x2 H locs ls Wd hl hf
      refine lv_iload_n S.1 S.2.1 dX10_keep_13 rfl (lv_at hl 2 rfl) ?_
      refine lv_sipush (v := 188) S.1 S.2.1 dX10_keep_14 (by decide) ?_
      refine lv_icmp_ge (tgt := 46) S.1 S.2.1 dX10_keep_17 rfl (fun c3 => ?_) (fun c3 => ?_)
      · have hf := g_if hf c3
        refine lv_aload_n S.1 S.2.1 dX10_keep_46 rfl (lv_at hl 0 rfl) ?_
        refine g_get (a := a_t) S hK Wd iX10_keep_X10 0 rfl rfl 17 rfl rfl kX10_keep_2 rfl dX10_keep_47 ?_
        refine lv_iload_n S.1 S.2.1 dX10_keep_50 rfl (lv_at hl 1 rfl) ?_
        refine lv_iconst (v := 1) S.1 S.2.1 dX10_keep_51 (by decide) ?_
        obtain ⟨h4, hf⟩ := g_gi hF hf
        refine g_zast (a := a_t_isKept) (ws' := (wX10_keep cI cB cZ cM cJ cK  a_t a_t_text a_t_corners a_t_streets a_t_ends a_t_time a_t_leaders a_t_home a_t_feet a_t_far a_t_now a_t_isKept a_t_tried a_t_row a_t_who a_t_then a_t_best a_t_seenAs a_t_seenAt a_t_plan t_trace t_typed t_at t_start t_sort t_value t_fault t_rowLong t_homes t_bestValue t_seen t_planMany t_now (upd t_isKept x1.toNatClampNeg (vp_nar .boolean (1 : Int32))))) S hK Wd 2 2 rfl rfl h4 dX10_keep_52 rfl (fun H locs Wd => ?_)
        refine lv_aload_n S.1 S.2.1 dX10_keep_53 rfl (lv_at hl 0 rfl) ?_
        refine g_get (a := a_t) S hK Wd iX10_keep_X10 0 rfl rfl 16 rfl rfl kX10_keep_1 rfl dX10_keep_54 ?_
        refine lv_iconst (v := 1) S.1 S.2.1 dX10_keep_57 (by decide) ?_
        refine g_iald (a := a_t_now) S hK Wd 1 0 rfl rfl (show ¬ (((1 : Int32) < 0) ∨ 564 ≤ Int32.toNatClampNeg (1 : Int32)) from by decide) dX10_keep_58 ?_
        exact g_iret S Wd hr hlk dX10_keep_59 ((t_now (1 : Int32).toNatClampNeg), t_now, (upd t_isKept x1.toNatClampNeg (vp_nar .boolean (1 : Int32)))) hf rfl rfl
      · have hf := g_ifn hf c3
        refine lv_aload_n S.1 S.2.1 dX10_keep_20 rfl (lv_at hl 0 rfl) ?_
        refine g_get (a := a_t) S hK Wd iX10_keep_X10 0 rfl rfl 16 rfl rfl kX10_keep_1 rfl dX10_keep_21 ?_
        refine lv_sipush (v := 188) S.1 S.2.1 dX10_keep_24 (by decide) ?_
        refine lv_iconst (v := 1) S.1 S.2.1 dX10_keep_27 (by decide) ?_
        refine lv_iload_n S.1 S.2.1 dX10_keep_28 rfl (lv_at hl 1 rfl) ?_
        refine lv_iadd S.1 S.2.1 dX10_keep_29 ?_
        refine lv_imul S.1 S.2.1 dX10_keep_30 ?_
        refine lv_iload_n S.1 S.2.1 dX10_keep_31 rfl (lv_at hl 2 rfl) ?_
        refine lv_iadd S.1 S.2.1 dX10_keep_32 ?_
        refine lv_aload_n S.1 S.2.1 dX10_keep_33 rfl (lv_at hl 0 rfl) ?_
        refine g_get (a := a_t) S hK Wd iX10_keep_X10 0 rfl rfl 16 rfl rfl kX10_keep_1 rfl dX10_keep_34 ?_
        refine lv_iload_n S.1 S.2.1 dX10_keep_37 rfl (lv_at hl 2 rfl) ?_
        obtain ⟨h5, hf⟩ := g_gi hF hf
        refine g_iald (a := a_t_now) S hK Wd 1 0 rfl rfl h5 dX10_keep_38 ?_
        obtain ⟨h6, hf⟩ := g_gi hF hf
        refine g_iast (a := a_t_now) (ws' := (wX10_keep cI cB cZ cM cJ cK  a_t a_t_text a_t_corners a_t_streets a_t_ends a_t_time a_t_leaders a_t_home a_t_feet a_t_far a_t_now a_t_isKept a_t_tried a_t_row a_t_who a_t_then a_t_best a_t_seenAs a_t_seenAt a_t_plan t_trace t_typed t_at t_start t_sort t_value t_fault t_rowLong t_homes t_bestValue t_seen t_planMany (upd t_now (((188 : Int32) * ((1 : Int32) + x1)) + x2).toNatClampNeg (t_now x2.toNatClampNeg)) t_isKept)) S hK Wd 1 0 rfl rfl h6 dX10_keep_39 rfl (fun H locs Wd => ?_)
        refine lv_iinc (v := (x2 + (1 : Int32))) (lv' := [(2, .int (x2 + (1 : Int32))), (0, .ref a_t), (1, .int x1)]) S.1 S.2.1 dX10_keep_40 hl (k := 2) rfl rfl (by decide) rfl (fun ls hl => ?_)
        refine lv_goto (tgt := 13) S.1 S.2.1 dX10_keep_43 rfl ?_
        exact ih (upd t_now (((188 : Int32) * ((1 : Int32) + x1)) + x2).toNatClampNeg (t_now x2.toNatClampNeg)) t_isKept (x2 + (1 : Int32)) _ _ _ Wd (lv_sub hl [1, 2, 0] rfl) hf
  refine lv_iload_n S.1 S.2.1 dX10_keep_0 rfl (lv_at hl 1 rfl) ?_
  refine lv_iconst (v := 0) S.1 S.2.1 dX10_keep_1 (by decide) ?_
  refine lv_iconst (v := 1) S.1 S.2.1 dX10_keep_2 (by decide) ?_
  obtain ⟨u1, hu1, hf⟩ := g_bind hF hf
  refine g_callS (ws' := (wX10_keep cI cB cZ cM cJ cK  a_t a_t_text a_t_corners a_t_streets a_t_ends a_t_time a_t_leaders a_t_home a_t_feet a_t_far a_t_now a_t_isKept a_t_tried a_t_row a_t_who a_t_then a_t_best a_t_seenAs a_t_seenAt a_t_plan t_trace t_typed t_at t_start t_sort t_value t_fault t_rowLong t_homes t_bestValue t_seen t_planMany t_now t_isKept)) (As := [.int x1, .int (0 : Int32), .int (1 : Int32)]) (rest := []) (st1 := [.int u1]) S hK hA Wd (c_X10_in l D N cI cB cZ cM cJ cK x1 (0 : Int32) (1 : Int32)) (va_cwS 3 S.2.2.2.2 gX10_keep_X10_in rfl rfl rfl n_X10_in ⟨Nat.le_of_ble_eq_true rfl, Nat.le_of_ble_eq_true rfl⟩) hu1 [] rfl rfl rfl rfl rfl rfl hl.1 rfl (Nat.le_of_ble_eq_true rfl) dX10_keep_3 ⟨Nat.zero_le _, Nat.zero_le _⟩ (fun H locs Wd => ?_)
  refine lv_if_ne (tgt := 11) S.1 S.2.1 dX10_keep_6 rfl (fun c2 => ?_) (fun c2 => ?_)
  · have hf := g_ifn hf c2
    refine lv_iconst (v := 0) S.1 S.2.1 dX10_keep_11 (by decide) ?_
    refine lv_istore_n (lv' := [(2, .int (0 : Int32)), (0, .ref a_t), (1, .int x1)]) S.1 S.2.1 dX10_keep_12 rfl hl (by decide) rfl (fun ls hl => ?_)
    exact b13  N t_now t_isKept (0 : Int32) _ _ _ Wd (lv_sub hl [1, 2, 0] rfl) hf
  · have hf := g_if hf c2
    refine lv_iconst (v := (-1)) S.1 S.2.1 dX10_keep_9 (by decide) ?_
    exact g_iret S Wd hr hlk dX10_keep_10 ((-1 : Int32), t_now, t_isKept) hf rfl rfl
def wX10_back (cI cB cZ cM cJ cK : ClassId) (a_t a_t_text a_t_corners a_t_streets a_t_ends a_t_time a_t_leaders a_t_home a_t_feet a_t_far a_t_now a_t_isKept a_t_tried a_t_row a_t_who a_t_then a_t_best a_t_seenAs a_t_seenAt a_t_plan : Nat) (t_trace : Int64) (t_typed t_at t_start t_sort t_value t_fault t_rowLong t_homes t_bestValue t_seen t_planMany : Int32) (t_now t_isKept : Nat → Int32) : List va_W := [[(a_t, .inr (10, [.long t_trace, .ref a_t_text, .int t_typed, .ref a_t_corners, .ref a_t_streets, .ref a_t_ends, .ref a_t_time, .ref a_t_leaders, .ref a_t_home, .ref a_t_feet, .int t_at, .int t_start, .int t_sort, .int t_value, .int t_fault, .ref a_t_far, .ref a_t_now, .ref a_t_isKept, .ref a_t_tried, .ref a_t_row, .int t_rowLong, .ref a_t_who, .ref a_t_then, .int t_homes, .ref a_t_best, .int t_bestValue, .ref a_t_seenAs, .ref a_t_seenAt, .int t_seen, .ref a_t_plan, .int t_planMany]))], [(a_t_now, .inl (cI, 564, .inl t_now))], [(a_t_isKept, .inl (cZ, 2, .inl t_isKept))]]
def rmX10_back : Room := { frames := 1, cells := 0, slots := 0, locals := 22 }
theorem kX10_back_1 : Cond.fieldLink RX10 41 "FeastMarchModel" "isKept" "[Z" ∈ wsX10_back := List.mem_of_getElem? (i := 1) rfl
theorem kX10_back_2 : Cond.fieldLink RX10 38 "FeastMarchModel" "now" "[I" ∈ wsX10_back := List.mem_of_getElem? (i := 2) rfl
theorem iX10_back_X10 : ∀ w ∈ wsX100, w ∈ wsX10_back := fun _ h => List.mem_cons_of_mem _ (List.mem_append_right _ h)
theorem n_X10_back : yX10_back.cls = RX10 ∧ yX10_back.cls ≠ "java/lang/invoke/MethodHandle" ∧ yX10_back.cls ≠ "java/lang/invoke/VarHandle" ∧ (parseMethodDescriptor yX10_back.desc).map (fun d => d.parameters.length) = some 1 := by decide +kernel
set_option maxHeartbeats 4000000 in
set_option maxRecDepth 100000 in
theorem c_X10_back (l : Launch) (D : va_G) (N : Nat) (cI cB cZ cM cJ cK : ClassId) (a_t a_t_text a_t_corners a_t_streets a_t_ends a_t_time a_t_leaders a_t_home a_t_feet a_t_far a_t_now a_t_isKept a_t_tried a_t_row a_t_who a_t_then a_t_best a_t_seenAs a_t_seenAt a_t_plan : Nat) (t_trace : Int64) (t_typed t_at t_start t_sort t_value t_fault t_rowLong t_homes t_bestValue t_seen t_planMany : Int32) (t_now t_isKept : Nat → Int32) (x1 : Int32) : gM l yX10_back wsX10_back rmX10_back D (gT cI cB cZ cM cJ cK) (wX10_back cI cB cZ cM cJ cK  a_t a_t_text a_t_corners a_t_streets a_t_ends a_t_time a_t_leaders a_t_home a_t_feet a_t_far a_t_now a_t_isKept a_t_tried a_t_row a_t_who a_t_then a_t_best a_t_seenAs a_t_seenAt a_t_plan t_trace t_typed t_at t_start t_sort t_value t_fault t_rowLong t_homes t_bestValue t_seen t_planMany t_now t_isKept) [.ref a_t, .int x1] (fX10_back N t_now t_isKept x1) (fun _u : Int32 × (Nat → Int32) => some (.int _u.1)) (fun _u : Int32 × (Nat → Int32) => (wX10_back cI cB cZ cM cJ cK  a_t a_t_text a_t_corners a_t_streets a_t_ends a_t_time a_t_leaders a_t_home a_t_feet a_t_far a_t_now a_t_isKept a_t_tried a_t_row a_t_who a_t_then a_t_best a_t_seenAs a_t_seenAt a_t_plan t_trace t_typed t_at t_start t_sort t_value t_fault t_rowLong t_homes t_bestValue t_seen t_planMany _u.2 t_isKept)) := by
  refine g_start (cc := cX10_back) (maxL := 3) (ret := (some .int)) (by decide) rfl (Nat.le_of_ble_eq_true rfl) ?_
  intro F hf hF p e s m below meth c A ls S hK hA Wd hr hlk hnm hl
  have b25 : ∀ (n : Nat), ∀ (t_now : Nat → Int32) (x2 : Int32) (H1 : Heap) (locs1 : List Loc) (ls1 : Array Slot), gw D A s.heap (wX10_back cI cB cZ cM cJ cK  a_t a_t_text a_t_corners a_t_streets a_t_ends a_t_time a_t_leaders a_t_home a_t_feet a_t_far a_t_now a_t_isKept a_t_tried a_t_row a_t_who a_t_then a_t_best a_t_seenAs a_t_seenAt a_t_plan t_trace t_typed t_at t_start t_sort t_value t_fault t_rowLong t_homes t_bestValue t_seen t_planMany t_now t_isKept) H1 locs1 → lv_has ls1 3 [(0, .ref a_t), (1, .int x1), (2, .int x2)] → F = fX10_back_b25 N t_isKept x1  n t_now x2 → W p l e rmX10_back s m [.ref a_t, .int x1].toArray below meth c H1 locs1 0 0 (MQ below (gQ F (fun _u : Int32 × (Nat → Int32) => some (.int _u.1)) (fun _u : Int32 × (Nat → Int32) => (wX10_back cI cB cZ cM cJ cK  a_t a_t_text a_t_corners a_t_streets a_t_ends a_t_time a_t_leaders a_t_home a_t_feet a_t_far a_t_now a_t_isKept a_t_tried a_t_row a_t_who a_t_then a_t_best a_t_seenAs a_t_seenAt a_t_plan t_trace t_typed t_at t_start t_sort t_value t_fault t_rowLong t_homes t_bestValue t_seen t_planMany _u.2 t_isKept)) D A) [.ref a_t, .int x1].toArray s 0 0 A) (F0 m 25 ls1 []) := by
    intro  n
    induction n with
    | zero => intro t_now x2 H locs ls Wd hl hf; exact absurd hf hF
    | succ n ih =>
      intro t_now x2 H locs ls Wd hl hf
      refine lv_iload_n S.1 S.2.1 dX10_back_25 rfl (lv_at hl 2 rfl) ?_
      refine lv_sipush (v := 188) S.1 S.2.1 dX10_back_26 (by decide) ?_
      refine lv_icmp_ge (tgt := 58) S.1 S.2.1 dX10_back_29 rfl (fun c5 => ?_) (fun c5 => ?_)
      · have hf := g_if hf c5
        refine lv_aload_n S.1 S.2.1 dX10_back_58 rfl (lv_at hl 0 rfl) ?_
        refine g_get (a := a_t) S hK Wd iX10_back_X10 0 rfl rfl 16 rfl rfl kX10_back_2 rfl dX10_back_59 ?_
        refine lv_iconst (v := 1) S.1 S.2.1 dX10_back_62 (by decide) ?_
        refine g_iald (a := a_t_now) S hK Wd 1 0 rfl rfl (show ¬ (((1 : Int32) < 0) ∨ 564 ≤ Int32.toNatClampNeg (1 : Int32)) from by decide) dX10_back_63 ?_
        exact g_iret S Wd hr hlk dX10_back_64 ((t_now (1 : Int32).toNatClampNeg), t_now) hf rfl rfl
      · have hf := g_ifn hf c5
        refine lv_aload_n S.1 S.2.1 dX10_back_32 rfl (lv_at hl 0 rfl) ?_
        refine g_get (a := a_t) S hK Wd iX10_back_X10 0 rfl rfl 16 rfl rfl kX10_back_2 rfl dX10_back_33 ?_
        refine lv_iload_n S.1 S.2.1 dX10_back_36 rfl (lv_at hl 2 rfl) ?_
        refine lv_aload_n S.1 S.2.1 dX10_back_37 rfl (lv_at hl 0 rfl) ?_
        refine g_get (a := a_t) S hK Wd iX10_back_X10 0 rfl rfl 16 rfl rfl kX10_back_2 rfl dX10_back_38 ?_
        refine lv_sipush (v := 188) S.1 S.2.1 dX10_back_41 (by decide) ?_
        refine lv_iconst (v := 1) S.1 S.2.1 dX10_back_44 (by decide) ?_
        refine lv_iload_n S.1 S.2.1 dX10_back_45 rfl (lv_at hl 1 rfl) ?_
        refine lv_iadd S.1 S.2.1 dX10_back_46 ?_
        refine lv_imul S.1 S.2.1 dX10_back_47 ?_
        refine lv_iload_n S.1 S.2.1 dX10_back_48 rfl (lv_at hl 2 rfl) ?_
        refine lv_iadd S.1 S.2.1 dX10_back_49 ?_
        obtain ⟨h6, hf⟩ := g_gi hF hf
        refine g_iald (a := a_t_now) S hK Wd 1 0 rfl rfl h6 dX10_back_50 ?_
        obtain ⟨h7, hf⟩ := g_gi hF hf
        refine g_iast (a := a_t_now) (ws' := (wX10_back cI cB cZ cM cJ cK  a_t a_t_text a_t_corners a_t_streets a_t_ends a_t_time a_t_leaders a_t_home a_t_feet a_t_far a_t_now a_t_isKept a_t_tried a_t_row a_t_who a_t_then a_t_best a_t_seenAs a_t_seenAt a_t_plan t_trace t_typed t_at t_start t_sort t_value t_fault t_rowLong t_homes t_bestValue t_seen t_planMany (upd t_now x2.toNatClampNeg (t_now (((188 : Int32) * ((1 : Int32) + x1)) + x2).toNatClampNeg)) t_isKept)) S hK Wd 1 0 rfl rfl h7 dX10_back_51 rfl (fun H locs Wd => ?_)
        refine lv_iinc (v := (x2 + (1 : Int32))) (lv' := [(2, .int (x2 + (1 : Int32))), (0, .ref a_t), (1, .int x1)]) S.1 S.2.1 dX10_back_52 hl (k := 2) rfl rfl (by decide) rfl (fun ls hl => ?_)
        refine lv_goto (tgt := 25) S.1 S.2.1 dX10_back_55 rfl ?_
        exact ih (upd t_now x2.toNatClampNeg (t_now (((188 : Int32) * ((1 : Int32) + x1)) + x2).toNatClampNeg)) (x2 + (1 : Int32)) _ _ _ Wd (lv_sub hl [1, 2, 0] rfl) hf
  refine lv_iload_n S.1 S.2.1 dX10_back_0 rfl (lv_at hl 1 rfl) ?_
  refine lv_iconst (v := 0) S.1 S.2.1 dX10_back_1 (by decide) ?_
  refine lv_iconst (v := 1) S.1 S.2.1 dX10_back_2 (by decide) ?_
  obtain ⟨u1, hu1, hf⟩ := g_bind hF hf
  refine g_callS (ws' := (wX10_back cI cB cZ cM cJ cK  a_t a_t_text a_t_corners a_t_streets a_t_ends a_t_time a_t_leaders a_t_home a_t_feet a_t_far a_t_now a_t_isKept a_t_tried a_t_row a_t_who a_t_then a_t_best a_t_seenAs a_t_seenAt a_t_plan t_trace t_typed t_at t_start t_sort t_value t_fault t_rowLong t_homes t_bestValue t_seen t_planMany t_now t_isKept)) (As := [.int x1, .int (0 : Int32), .int (1 : Int32)]) (rest := []) (st1 := [.int u1]) S hK hA Wd (c_X10_in l D N cI cB cZ cM cJ cK x1 (0 : Int32) (1 : Int32)) (va_cwS 3 S.2.2.2.2 gX10_back_X10_in rfl rfl rfl n_X10_in ⟨Nat.le_of_ble_eq_true rfl, Nat.le_of_ble_eq_true rfl⟩) hu1 [] rfl rfl rfl rfl rfl rfl hl.1 rfl (Nat.le_of_ble_eq_true rfl) dX10_back_3 ⟨Nat.zero_le _, Nat.zero_le _⟩ (fun H locs Wd => ?_)
  refine lv_if_ne (tgt := 11) S.1 S.2.1 dX10_back_6 rfl (fun c2 => ?_) (fun c2 => ?_)
  · have hf := g_ifn hf c2
    refine lv_aload_n S.1 S.2.1 dX10_back_11 rfl (lv_at hl 0 rfl) ?_
    refine g_get (a := a_t) S hK Wd iX10_back_X10 0 rfl rfl 17 rfl rfl kX10_back_1 rfl dX10_back_12 ?_
    refine lv_iload_n S.1 S.2.1 dX10_back_15 rfl (lv_at hl 1 rfl) ?_
    obtain ⟨h3, hf⟩ := g_gi hF hf
    refine g_zald (a := a_t_isKept) S hK Wd 2 2 rfl rfl h3 dX10_back_16 ?_
    refine lv_if_ne (tgt := 23) S.1 S.2.1 dX10_back_17 rfl (fun c4 => ?_) (fun c4 => ?_)
    · have hf := g_ifn hf c4
      refine lv_iconst (v := 0) S.1 S.2.1 dX10_back_23 (by decide) ?_
      refine lv_istore_n (lv' := [(2, .int (0 : Int32)), (0, .ref a_t), (1, .int x1)]) S.1 S.2.1 dX10_back_24 rfl hl (by decide) rfl (fun ls hl => ?_)
      exact b25  N t_now (0 : Int32) _ _ _ Wd (lv_sub hl [1, 2, 0] rfl) hf
    · have hf := g_if hf c4
      refine lv_bipush (v := (-2)) S.1 S.2.1 dX10_back_20 (by decide) ?_
      exact g_iret S Wd hr hlk dX10_back_22 ((-2 : Int32), t_now) hf rfl rfl
  · have hf := g_if hf c2
    refine lv_iconst (v := (-1)) S.1 S.2.1 dX10_back_9 (by decide) ?_
    exact g_iret S Wd hr hlk dX10_back_10 ((-1 : Int32), t_now) hf rfl rfl
def wX10_count (cI cB cZ cM cJ cK : ClassId) (a_t a_t_text a_t_corners a_t_streets a_t_ends a_t_time a_t_leaders a_t_home a_t_feet a_t_far a_t_now a_t_isKept a_t_tried a_t_row a_t_who a_t_then a_t_best a_t_seenAs a_t_seenAt a_t_plan : Nat) (t_trace : Int64) (t_typed t_at t_start t_sort t_value t_fault t_rowLong t_homes t_bestValue t_seen t_planMany : Int32) (t_corners t_streets t_leaders t_now : Nat → Int32) : List va_W := [[(a_t, .inr (10, [.long t_trace, .ref a_t_text, .int t_typed, .ref a_t_corners, .ref a_t_streets, .ref a_t_ends, .ref a_t_time, .ref a_t_leaders, .ref a_t_home, .ref a_t_feet, .int t_at, .int t_start, .int t_sort, .int t_value, .int t_fault, .ref a_t_far, .ref a_t_now, .ref a_t_isKept, .ref a_t_tried, .ref a_t_row, .int t_rowLong, .ref a_t_who, .ref a_t_then, .int t_homes, .ref a_t_best, .int t_bestValue, .ref a_t_seenAs, .ref a_t_seenAt, .int t_seen, .ref a_t_plan, .int t_planMany]))], [(a_t_corners, .inl (cI, 2, .inl t_corners))], [(a_t_streets, .inl (cI, 2, .inl t_streets))], [(a_t_leaders, .inl (cI, 2, .inl t_leaders))], [(a_t_now, .inl (cI, 564, .inl t_now))]]
def rmX10_count : Room := { frames := 0, cells := 0, slots := 0, locals := 0 }
theorem kX10_count_1 : Cond.fieldLink RX10 13 "FeastMarchModel" "corners" "[I" ∈ wsX10_count := List.mem_of_getElem? (i := 1) rfl
theorem kX10_count_2 : Cond.fieldLink RX10 17 "FeastMarchModel" "streets" "[I" ∈ wsX10_count := List.mem_of_getElem? (i := 2) rfl
theorem kX10_count_3 : Cond.fieldLink RX10 26 "FeastMarchModel" "leaders" "[I" ∈ wsX10_count := List.mem_of_getElem? (i := 3) rfl
theorem kX10_count_4 : Cond.fieldLink RX10 116 "FeastMarchModel" "seen" "I" ∈ wsX10_count := List.mem_of_getElem? (i := 4) rfl
theorem kX10_count_5 : Cond.fieldLink RX10 119 "FeastMarchModel" "planMany" "I" ∈ wsX10_count := List.mem_of_getElem? (i := 5) rfl
theorem kX10_count_6 : Cond.fieldLink RX10 38 "FeastMarchModel" "now" "[I" ∈ wsX10_count := List.mem_of_getElem? (i := 6) rfl
theorem kX10_count_7 : Cond.fieldLink RX10 79 "FeastMarchModel" "typed" "I" ∈ wsX10_count := List.mem_of_getElem? (i := 7) rfl
theorem iX10_count_X10 : ∀ w ∈ wsX100, w ∈ wsX10_count := fun _ h => List.mem_cons_of_mem _ (List.mem_append_right _ h)
theorem n_X10_count : yX10_count.cls = RX10 ∧ yX10_count.cls ≠ "java/lang/invoke/MethodHandle" ∧ yX10_count.cls ≠ "java/lang/invoke/VarHandle" ∧ (parseMethodDescriptor yX10_count.desc).map (fun d => d.parameters.length) = some 1 := by decide +kernel
set_option maxHeartbeats 4000000 in
set_option maxRecDepth 100000 in
theorem c_X10_count (l : Launch) (D : va_G) (N : Nat) (cI cB cZ cM cJ cK : ClassId) (a_t a_t_text a_t_corners a_t_streets a_t_ends a_t_time a_t_leaders a_t_home a_t_feet a_t_far a_t_now a_t_isKept a_t_tried a_t_row a_t_who a_t_then a_t_best a_t_seenAs a_t_seenAt a_t_plan : Nat) (t_trace : Int64) (t_typed t_at t_start t_sort t_value t_fault t_rowLong t_homes t_bestValue t_seen t_planMany : Int32) (t_corners t_streets t_leaders t_now : Nat → Int32) (x1 : Int32) : gM l yX10_count wsX10_count rmX10_count D (gT cI cB cZ cM cJ cK) (wX10_count cI cB cZ cM cJ cK  a_t a_t_text a_t_corners a_t_streets a_t_ends a_t_time a_t_leaders a_t_home a_t_feet a_t_far a_t_now a_t_isKept a_t_tried a_t_row a_t_who a_t_then a_t_best a_t_seenAs a_t_seenAt a_t_plan t_trace t_typed t_at t_start t_sort t_value t_fault t_rowLong t_homes t_bestValue t_seen t_planMany t_corners t_streets t_leaders t_now) [.ref a_t, .int x1] (fX10_count N t_typed t_seen t_planMany t_corners t_streets t_leaders t_now x1) (fun _u : Int32 => some (.int _u)) (fun _u : Int32 => (wX10_count cI cB cZ cM cJ cK  a_t a_t_text a_t_corners a_t_streets a_t_ends a_t_time a_t_leaders a_t_home a_t_feet a_t_far a_t_now a_t_isKept a_t_tried a_t_row a_t_who a_t_then a_t_best a_t_seenAs a_t_seenAt a_t_plan t_trace t_typed t_at t_start t_sort t_value t_fault t_rowLong t_homes t_bestValue t_seen t_planMany t_corners t_streets t_leaders t_now)) := by
  refine g_start (cc := cX10_count) (maxL := 2) (ret := (some .int)) (by decide) rfl (Nat.le_of_ble_eq_true rfl) ?_
  intro F hf hF p e s m below meth c A ls S hK hA Wd hr hlk hnm hl
  refine lv_iload_n S.1 S.2.1 dX10_count_0 rfl (lv_at hl 1 rfl) ?_
  by_cases c1 : x1 = (0 : Int32)
  · have hf := g_if hf c1
    refine g_tabIn (tgt := 44) (off := 43) S c1 dX10_count_1 (by decide) (by decide) (by decide) rfl ?_
    refine lv_aload_n S.1 S.2.1 dX10_count_44 rfl (lv_at hl 0 rfl) ?_
    refine g_get (a := a_t) S hK Wd iX10_count_X10 0 rfl rfl 3 rfl rfl kX10_count_1 rfl dX10_count_45 ?_
    refine lv_iconst (v := 0) S.1 S.2.1 dX10_count_48 (by decide) ?_
    refine g_iald (a := a_t_corners) S hK Wd 1 0 rfl rfl (show ¬ (((0 : Int32) < 0) ∨ 2 ≤ Int32.toNatClampNeg (0 : Int32)) from by decide) dX10_count_49 ?_
    exact g_iret S Wd hr hlk dX10_count_50 (t_corners (0 : Int32).toNatClampNeg) hf rfl rfl
  have hf := g_ifn hf c1
  by_cases c2 : x1 = (1 : Int32)
  · have hf := g_if hf c2
    refine g_tabIn (tgt := 51) (off := 50) S c2 dX10_count_1 (by decide) (by decide) (by decide) rfl ?_
    refine lv_aload_n S.1 S.2.1 dX10_count_51 rfl (lv_at hl 0 rfl) ?_
    refine g_get (a := a_t) S hK Wd iX10_count_X10 0 rfl rfl 4 rfl rfl kX10_count_2 rfl dX10_count_52 ?_
    refine lv_iconst (v := 0) S.1 S.2.1 dX10_count_55 (by decide) ?_
    refine g_iald (a := a_t_streets) S hK Wd 2 0 rfl rfl (show ¬ (((0 : Int32) < 0) ∨ 2 ≤ Int32.toNatClampNeg (0 : Int32)) from by decide) dX10_count_56 ?_
    exact g_iret S Wd hr hlk dX10_count_57 (t_streets (0 : Int32).toNatClampNeg) hf rfl rfl
  have hf := g_ifn hf c2
  by_cases c3 : x1 = (2 : Int32)
  · have hf := g_if hf c3
    refine g_tabIn (tgt := 58) (off := 57) S c3 dX10_count_1 (by decide) (by decide) (by decide) rfl ?_
    refine lv_aload_n S.1 S.2.1 dX10_count_58 rfl (lv_at hl 0 rfl) ?_
    refine g_get (a := a_t) S hK Wd iX10_count_X10 0 rfl rfl 7 rfl rfl kX10_count_3 rfl dX10_count_59 ?_
    refine lv_iconst (v := 0) S.1 S.2.1 dX10_count_62 (by decide) ?_
    refine g_iald (a := a_t_leaders) S hK Wd 3 0 rfl rfl (show ¬ (((0 : Int32) < 0) ∨ 2 ≤ Int32.toNatClampNeg (0 : Int32)) from by decide) dX10_count_63 ?_
    exact g_iret S Wd hr hlk dX10_count_64 (t_leaders (0 : Int32).toNatClampNeg) hf rfl rfl
  have hf := g_ifn hf c3
  by_cases c4 : x1 = (3 : Int32)
  · have hf := g_if hf c4
    refine g_tabIn (tgt := 65) (off := 64) S c4 dX10_count_1 (by decide) (by decide) (by decide) rfl ?_
    refine lv_aload_n S.1 S.2.1 dX10_count_65 rfl (lv_at hl 0 rfl) ?_
    refine g_get (a := a_t) S hK Wd iX10_count_X10 0 rfl rfl 28 rfl rfl kX10_count_4 rfl dX10_count_66 ?_
    exact g_iret S Wd hr hlk dX10_count_69 t_seen hf rfl rfl
  have hf := g_ifn hf c4
  by_cases c5 : x1 = (4 : Int32)
  · have hf := g_if hf c5
    refine g_tabIn (tgt := 70) (off := 69) S c5 dX10_count_1 (by decide) (by decide) (by decide) rfl ?_
    refine lv_aload_n S.1 S.2.1 dX10_count_70 rfl (lv_at hl 0 rfl) ?_
    refine g_get (a := a_t) S hK Wd iX10_count_X10 0 rfl rfl 30 rfl rfl kX10_count_5 rfl dX10_count_71 ?_
    exact g_iret S Wd hr hlk dX10_count_74 t_planMany hf rfl rfl
  have hf := g_ifn hf c5
  by_cases c6 : x1 = (5 : Int32)
  · have hf := g_if hf c6
    refine g_tabIn (tgt := 75) (off := 74) S c6 dX10_count_1 (by decide) (by decide) (by decide) rfl ?_
    refine lv_aload_n S.1 S.2.1 dX10_count_75 rfl (lv_at hl 0 rfl) ?_
    refine g_get (a := a_t) S hK Wd iX10_count_X10 0 rfl rfl 16 rfl rfl kX10_count_6 rfl dX10_count_76 ?_
    refine lv_bipush (v := 17) S.1 S.2.1 dX10_count_79 (by decide) ?_
    refine g_iald (a := a_t_now) S hK Wd 4 0 rfl rfl (show ¬ (((17 : Int32) < 0) ∨ 564 ≤ Int32.toNatClampNeg (17 : Int32)) from by decide) dX10_count_81 ?_
    exact g_iret S Wd hr hlk dX10_count_82 (t_now (17 : Int32).toNatClampNeg) hf rfl rfl
  have hf := g_ifn hf c6
  by_cases c7 : x1 = (6 : Int32)
  · have hf := g_if hf c7
    refine g_tabIn (tgt := 83) (off := 82) S c7 dX10_count_1 (by decide) (by decide) (by decide) rfl ?_
    refine lv_aload_n S.1 S.2.1 dX10_count_83 rfl (lv_at hl 0 rfl) ?_
    refine g_get (a := a_t) S hK Wd iX10_count_X10 0 rfl rfl 2 rfl rfl kX10_count_7 rfl dX10_count_84 ?_
    exact g_iret S Wd hr hlk dX10_count_87 t_typed hf rfl rfl
  have hf := g_ifn hf c7
  refine lv_tableOut (tgt := 88) S.1 S.2.1 dX10_count_1 ?_ rfl ?_
  · have q0 : (x1).toInt < 0 ∨ 6 < (x1).toInt := by
      have z0 : (x1).toInt ≠ 0 := fun e => g_ne c1 (e.trans (by decide))
      have z1 : (x1).toInt ≠ 1 := fun e => g_ne c2 (e.trans (by decide))
      have z2 : (x1).toInt ≠ 2 := fun e => g_ne c3 (e.trans (by decide))
      have z3 : (x1).toInt ≠ 3 := fun e => g_ne c4 (e.trans (by decide))
      have z4 : (x1).toInt ≠ 4 := fun e => g_ne c5 (e.trans (by decide))
      have z5 : (x1).toInt ≠ 5 := fun e => g_ne c6 (e.trans (by decide))
      have z6 : (x1).toInt ≠ 6 := fun e => g_ne c7 (e.trans (by decide))
      omega
    exact q0
  refine lv_iconst (v := (-1)) S.1 S.2.1 dX10_count_88 (by decide) ?_
  exact g_iret S Wd hr hlk dX10_count_89 (-1 : Int32) hf rfl rfl
def wX10_trace (cI cB cZ cM cJ cK : ClassId) (a_t a_t_text a_t_corners a_t_streets a_t_ends a_t_time a_t_leaders a_t_home a_t_feet a_t_far a_t_now a_t_isKept a_t_tried a_t_row a_t_who a_t_then a_t_best a_t_seenAs a_t_seenAt a_t_plan : Nat) (t_trace : Int64) (t_typed t_at t_start t_sort t_value t_fault t_rowLong t_homes t_bestValue t_seen t_planMany : Int32) : List va_W := [[(a_t, .inr (10, [.long t_trace, .ref a_t_text, .int t_typed, .ref a_t_corners, .ref a_t_streets, .ref a_t_ends, .ref a_t_time, .ref a_t_leaders, .ref a_t_home, .ref a_t_feet, .int t_at, .int t_start, .int t_sort, .int t_value, .int t_fault, .ref a_t_far, .ref a_t_now, .ref a_t_isKept, .ref a_t_tried, .ref a_t_row, .int t_rowLong, .ref a_t_who, .ref a_t_then, .int t_homes, .ref a_t_best, .int t_bestValue, .ref a_t_seenAs, .ref a_t_seenAt, .int t_seen, .ref a_t_plan, .int t_planMany]))]]
def rmX10_trace : Room := { frames := 0, cells := 0, slots := 0, locals := 0 }
theorem kX10_trace_1 : Cond.fieldLink RX10 198 "FeastMarchModel" "trace" "J" ∈ wsX10_trace := List.mem_of_getElem? (i := 1) rfl
theorem iX10_trace_X10 : ∀ w ∈ wsX100, w ∈ wsX10_trace := fun _ h => List.mem_cons_of_mem _ (List.mem_append_right _ h)
theorem n_X10_trace : yX10_trace.cls = RX10 ∧ yX10_trace.cls ≠ "java/lang/invoke/MethodHandle" ∧ yX10_trace.cls ≠ "java/lang/invoke/VarHandle" ∧ (parseMethodDescriptor yX10_trace.desc).map (fun d => d.parameters.length) = some 0 := by decide +kernel
set_option maxHeartbeats 4000000 in
set_option maxRecDepth 100000 in
theorem c_X10_trace (l : Launch) (D : va_G) (N : Nat) (cI cB cZ cM cJ cK : ClassId) (a_t a_t_text a_t_corners a_t_streets a_t_ends a_t_time a_t_leaders a_t_home a_t_feet a_t_far a_t_now a_t_isKept a_t_tried a_t_row a_t_who a_t_then a_t_best a_t_seenAs a_t_seenAt a_t_plan : Nat) (t_trace : Int64) (t_typed t_at t_start t_sort t_value t_fault t_rowLong t_homes t_bestValue t_seen t_planMany : Int32) : gM l yX10_trace wsX10_trace rmX10_trace D (gT cI cB cZ cM cJ cK) (wX10_trace cI cB cZ cM cJ cK  a_t a_t_text a_t_corners a_t_streets a_t_ends a_t_time a_t_leaders a_t_home a_t_feet a_t_far a_t_now a_t_isKept a_t_tried a_t_row a_t_who a_t_then a_t_best a_t_seenAs a_t_seenAt a_t_plan t_trace t_typed t_at t_start t_sort t_value t_fault t_rowLong t_homes t_bestValue t_seen t_planMany) [.ref a_t] (fX10_trace N t_trace) (fun _u : Int64 => some (.long _u)) (fun _u : Int64 => (wX10_trace cI cB cZ cM cJ cK  a_t a_t_text a_t_corners a_t_streets a_t_ends a_t_time a_t_leaders a_t_home a_t_feet a_t_far a_t_now a_t_isKept a_t_tried a_t_row a_t_who a_t_then a_t_best a_t_seenAs a_t_seenAt a_t_plan t_trace t_typed t_at t_start t_sort t_value t_fault t_rowLong t_homes t_bestValue t_seen t_planMany)) := by
  refine g_start (cc := cX10_trace) (maxL := 1) (ret := (some .long)) (by decide) rfl (Nat.le_of_ble_eq_true rfl) ?_
  intro F hf hF p e s m below meth c A ls S hK hA Wd hr hlk hnm hl
  refine lv_aload_n S.1 S.2.1 dX10_trace_0 rfl (lv_at hl 0 rfl) ?_
  refine g_get (a := a_t) S hK Wd iX10_trace_X10 0 rfl rfl 0 rfl rfl kX10_trace_1 rfl dX10_trace_1 ?_
  exact g_lret S Wd hr hlk dX10_trace_4 t_trace hf rfl rfl
