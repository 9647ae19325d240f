def wX4_begin (cI cB cZ cM cJ cK : ClassId) (a_t a_t_best a_t_longest a_p1 : Nat) (t_fresh t_size t_door t_fines t_hours t_longestWalked t_walked t_ends t_happy t_leastBread t_mostBread t_hides p1_at p1_hour p1_fines p1_led p1_taken p1_shut : Int32) : List va_W := [[(a_t, .inr (4, [.int t_fresh, .int t_size, .ref a_t_best, .int t_door, .int t_fines, .int t_hours, .ref a_t_longest, .int t_longestWalked, .int t_walked, .int t_ends, .int t_happy, .int t_leastBread, .int t_mostBread, .int t_hides]))], [(a_p1, .inr (3, [.int p1_at, .int p1_hour, .int p1_fines, .int p1_led, .int p1_taken, .int p1_shut]))]]
def rmX4_begin : Room := { frames := 1, cells := 0, slots := 0, locals := 20 }
theorem kX4_begin_1 : Cond.fieldLink RX4 18 "FeastMarch$Outlook" "size" "I" ∈ wsX4_begin := List.mem_of_getElem? (i := 1) rfl
theorem kX4_begin_2 : Cond.fieldLink RX4 22 "FeastMarch$Outlook" "door" "I" ∈ wsX4_begin := List.mem_of_getElem? (i := 2) rfl
theorem kX4_begin_3 : Cond.fieldLink RX4 25 "FeastMarch$Outlook" "longestWalked" "I" ∈ wsX4_begin := List.mem_of_getElem? (i := 3) rfl
theorem kX4_begin_4 : Cond.fieldLink RX4 34 "FeastMarch$Outlook" "walked" "I" ∈ wsX4_begin := List.mem_of_getElem? (i := 4) rfl
theorem kX4_begin_5 : Cond.fieldLink RX4 36 "FeastMarch$Outlook" "ends" "I" ∈ wsX4_begin := List.mem_of_getElem? (i := 5) rfl
theorem kX4_begin_6 : Cond.fieldLink RX4 39 "FeastMarch$Outlook" "happy" "I" ∈ wsX4_begin := List.mem_of_getElem? (i := 6) rfl
theorem kX4_begin_7 : Cond.fieldLink RX4 42 "FeastMarch$Outlook" "leastBread" "I" ∈ wsX4_begin := List.mem_of_getElem? (i := 7) rfl
theorem kX4_begin_8 : Cond.fieldLink RX4 45 "FeastMarch$Outlook" "mostBread" "I" ∈ wsX4_begin := List.mem_of_getElem? (i := 8) rfl
theorem kX4_begin_9 : Cond.fieldLink RX4 48 "FeastMarch$Outlook" "hides" "I" ∈ wsX4_begin := List.mem_of_getElem? (i := 9) rfl
theorem iX4_begin_X4 : ∀ w ∈ wsX40, w ∈ wsX4_begin := fun _ h => List.mem_cons_of_mem _ (List.mem_append_left _ (List.mem_append_right _ h))
theorem n_X4_begin : yX4_begin.cls = RX4 ∧ yX4_begin.cls ≠ "java/lang/invoke/MethodHandle" ∧ yX4_begin.cls ≠ "java/lang/invoke/VarHandle" ∧ (parseMethodDescriptor yX4_begin.desc).map (fun d => d.parameters.length) = some 1 := by decide +kernel
set_option maxHeartbeats 4000000 in
set_option maxRecDepth 100000 in
theorem c_X4_begin (l : Launch) (D : va_G) (N : Nat) (cI cB cZ cM cJ cK : ClassId) (a_t a_t_best a_t_longest a_p1 : Nat) (t_fresh t_size t_door t_fines t_hours t_longestWalked t_walked t_ends t_happy t_leastBread t_mostBread t_hides p1_at p1_hour p1_fines p1_led p1_taken p1_shut : Int32) : gM l yX4_begin wsX4_begin rmX4_begin D (gT cI cB cZ cM cJ cK) (wX4_begin cI cB cZ cM cJ cK  a_t a_t_best a_t_longest a_p1 t_fresh t_size t_door t_fines t_hours t_longestWalked t_walked t_ends t_happy t_leastBread t_mostBread t_hides p1_at p1_hour p1_fines p1_led p1_taken p1_shut) [.ref a_t, .ref a_p1] (fX4_begin N t_size t_door t_longestWalked t_walked t_ends t_happy t_leastBread t_mostBread t_hides p1_taken) (fun _u : Int32 × Int32 × Int32 × Int32 × Int32 × Int32 × Int32 × Int32 × Int32 => none) (fun _u : Int32 × Int32 × Int32 × Int32 × Int32 × Int32 × Int32 × Int32 × Int32 => (wX4_begin cI cB cZ cM cJ cK  a_t a_t_best a_t_longest a_p1 t_fresh _u.1 _u.2.1 t_fines t_hours _u.2.2.1 _u.2.2.2.1 _u.2.2.2.2.1 _u.2.2.2.2.2.1 _u.2.2.2.2.2.2.1 _u.2.2.2.2.2.2.2.1 _u.2.2.2.2.2.2.2.2 p1_at p1_hour p1_fines p1_led p1_taken p1_shut)) := by
  refine g_start (cc := cX4_begin) (maxL := 2) (ret := none) (by decide) rfl (Nat.le_of_ble_eq_true rfl) ?_
  intro F hf hF p e s m below meth c A ls S hK hA Wd hr hlk hnm hl
  refine lv_aload_n S.1 S.2.1 dX4_begin_0 rfl (lv_at hl 0 rfl) ?_
  refine lv_iconst (v := 0) S.1 S.2.1 dX4_begin_1 (by decide) ?_
  refine g_put (a := a_t) (ws' := (wX4_begin cI cB cZ cM cJ cK  a_t a_t_best a_t_longest a_p1 t_fresh (0 : Int32) t_door t_fines t_hours t_longestWalked t_walked t_ends t_happy t_leastBread t_mostBread t_hides p1_at p1_hour p1_fines p1_led p1_taken p1_shut)) S hK Wd iX4_begin_X4 tyX4 tyX4_ok nmX4 0 rfl rfl 1 rfl rfl kX4_begin_1 rfl rfl rfl dX4_begin_2 rfl (fun H locs Wd => ?_)
  refine lv_aload_n S.1 S.2.1 dX4_begin_5 rfl (lv_at hl 0 rfl) ?_
  refine lv_bipush (v := (-9)) S.1 S.2.1 dX4_begin_6 (by decide) ?_
  refine g_put (a := a_t) (ws' := (wX4_begin cI cB cZ cM cJ cK  a_t a_t_best a_t_longest a_p1 t_fresh (0 : Int32) (-9 : Int32) t_fines t_hours t_longestWalked t_walked t_ends t_happy t_leastBread t_mostBread t_hides p1_at p1_hour p1_fines p1_led p1_taken p1_shut)) S hK Wd iX4_begin_X4 tyX4 tyX4_ok nmX4 0 rfl rfl 3 rfl rfl kX4_begin_2 rfl rfl rfl dX4_begin_8 rfl (fun H locs Wd => ?_)
  refine lv_aload_n S.1 S.2.1 dX4_begin_11 rfl (lv_at hl 0 rfl) ?_
  refine lv_bipush (v := (-9)) S.1 S.2.1 dX4_begin_12 (by decide) ?_
  refine g_put (a := a_t) (ws' := (wX4_begin cI cB cZ cM cJ cK  a_t a_t_best a_t_longest a_p1 t_fresh (0 : Int32) (-9 : Int32) t_fines t_hours (-9 : Int32) t_walked t_ends t_happy t_leastBread t_mostBread t_hides p1_at p1_hour p1_fines p1_led p1_taken p1_shut)) S hK Wd iX4_begin_X4 tyX4 tyX4_ok nmX4 0 rfl rfl 7 rfl rfl kX4_begin_3 rfl rfl rfl dX4_begin_14 rfl (fun H locs Wd => ?_)
  refine lv_aload_n S.1 S.2.1 dX4_begin_17 rfl (lv_at hl 0 rfl) ?_
  refine lv_aload_n S.1 S.2.1 dX4_begin_18 rfl (lv_at hl 1 rfl) ?_
  obtain ⟨u1, hu1, hf⟩ := g_bind hF hf
  refine g_callV (ws' := (wX4_begin cI cB cZ cM cJ cK  a_t a_t_best a_t_longest a_p1 t_fresh (0 : Int32) (-9 : Int32) t_fines t_hours (-9 : Int32) t_walked t_ends t_happy t_leastBread t_mostBread t_hides p1_at p1_hour p1_fines p1_led p1_taken p1_shut)) (As := []) (rest := [.ref a_t]) (st1 := [.int u1, .ref a_t]) S hK hA Wd (c_X3_walked l D N cI cB cZ cM cJ cK a_p1 p1_at p1_hour p1_fines p1_led p1_taken p1_shut) (cwV 0 S.2.2.2.2 gX4_begin_X3_walked rfl rfl rfl n_X3_walked ⟨Nat.le_of_ble_eq_true rfl, Nat.le_of_ble_eq_true rfl⟩) hu1 [1] rfl rfl 0 3 rfl rfl rfl rfl rfl rfl rfl hl.1 rfl (Nat.le_of_ble_eq_true rfl) dX4_begin_19 ⟨Nat.zero_le _, Nat.zero_le _⟩ (fun H locs Wd => ?_)
  refine g_put (a := a_t) (ws' := (wX4_begin cI cB cZ cM cJ cK  a_t a_t_best a_t_longest a_p1 t_fresh (0 : Int32) (-9 : Int32) t_fines t_hours (-9 : Int32) u1 t_ends t_happy t_leastBread t_mostBread t_hides p1_at p1_hour p1_fines p1_led p1_taken p1_shut)) S hK Wd iX4_begin_X4 tyX4 tyX4_ok nmX4 0 rfl rfl 8 rfl rfl kX4_begin_4 rfl rfl rfl dX4_begin_22 rfl (fun H locs Wd => ?_)
  refine lv_aload_n S.1 S.2.1 dX4_begin_25 rfl (lv_at hl 0 rfl) ?_
  refine lv_iconst (v := 0) S.1 S.2.1 dX4_begin_26 (by decide) ?_
  refine g_put (a := a_t) (ws' := (wX4_begin cI cB cZ cM cJ cK  a_t a_t_best a_t_longest a_p1 t_fresh (0 : Int32) (-9 : Int32) t_fines t_hours (-9 : Int32) u1 (0 : Int32) t_happy t_leastBread t_mostBread t_hides p1_at p1_hour p1_fines p1_led p1_taken p1_shut)) S hK Wd iX4_begin_X4 tyX4 tyX4_ok nmX4 0 rfl rfl 9 rfl rfl kX4_begin_5 rfl rfl rfl dX4_begin_27 rfl (fun H locs Wd => ?_)
  refine lv_aload_n S.1 S.2.1 dX4_begin_30 rfl (lv_at hl 0 rfl) ?_
  refine lv_iconst (v := 0) S.1 S.2.1 dX4_begin_31 (by decide) ?_
  refine g_put (a := a_t) (ws' := (wX4_begin cI cB cZ cM cJ cK  a_t a_t_best a_t_longest a_p1 t_fresh (0 : Int32) (-9 : Int32) t_fines t_hours (-9 : Int32) u1 (0 : Int32) (0 : Int32) t_leastBread t_mostBread t_hides p1_at p1_hour p1_fines p1_led p1_taken p1_shut)) S hK Wd iX4_begin_X4 tyX4 tyX4_ok nmX4 0 rfl rfl 10 rfl rfl kX4_begin_6 rfl rfl rfl dX4_begin_32 rfl (fun H locs Wd => ?_)
  refine lv_aload_n S.1 S.2.1 dX4_begin_35 rfl (lv_at hl 0 rfl) ?_
  refine lv_sipush (v := 216) S.1 S.2.1 dX4_begin_36 (by decide) ?_
  refine g_put (a := a_t) (ws' := (wX4_begin cI cB cZ cM cJ cK  a_t a_t_best a_t_longest a_p1 t_fresh (0 : Int32) (-9 : Int32) t_fines t_hours (-9 : Int32) u1 (0 : Int32) (0 : Int32) (216 : Int32) t_mostBread t_hides p1_at p1_hour p1_fines p1_led p1_taken p1_shut)) S hK Wd iX4_begin_X4 tyX4 tyX4_ok nmX4 0 rfl rfl 11 rfl rfl kX4_begin_7 rfl rfl rfl dX4_begin_39 rfl (fun H locs Wd => ?_)
  refine lv_aload_n S.1 S.2.1 dX4_begin_42 rfl (lv_at hl 0 rfl) ?_
  refine lv_iconst (v := 0) S.1 S.2.1 dX4_begin_43 (by decide) ?_
  refine g_put (a := a_t) (ws' := (wX4_begin cI cB cZ cM cJ cK  a_t a_t_best a_t_longest a_p1 t_fresh (0 : Int32) (-9 : Int32) t_fines t_hours (-9 : Int32) u1 (0 : Int32) (0 : Int32) (216 : Int32) (0 : Int32) t_hides p1_at p1_hour p1_fines p1_led p1_taken p1_shut)) S hK Wd iX4_begin_X4 tyX4 tyX4_ok nmX4 0 rfl rfl 12 rfl rfl kX4_begin_8 rfl rfl rfl dX4_begin_44 rfl (fun H locs Wd => ?_)
  refine lv_aload_n S.1 S.2.1 dX4_begin_47 rfl (lv_at hl 0 rfl) ?_
  refine lv_iconst (v := 0) S.1 S.2.1 dX4_begin_48 (by decide) ?_
  refine g_put (a := a_t) (ws' := (wX4_begin cI cB cZ cM cJ cK  a_t a_t_best a_t_longest a_p1 t_fresh (0 : Int32) (-9 : Int32) t_fines t_hours (-9 : Int32) u1 (0 : Int32) (0 : Int32) (216 : Int32) (0 : Int32) (0 : Int32) p1_at p1_hour p1_fines p1_led p1_taken p1_shut)) S hK Wd iX4_begin_X4 tyX4 tyX4_ok nmX4 0 rfl rfl 13 rfl rfl kX4_begin_9 rfl rfl rfl dX4_begin_49 rfl (fun H locs Wd => ?_)
  exact g_vret S Wd hr hlk dX4_begin_52 ((0 : Int32), (-9 : Int32), (-9 : Int32), u1, (0 : Int32), (0 : Int32), (216 : Int32), (0 : Int32), (0 : Int32)) hf rfl rfl
def wX4_takeBest (cI cB cZ cM cJ cK : ClassId) (a_t a_t_best a_t_longest a_p1 a_p1_told a_p1_leading a_p1_ended a_p1_march : Nat) (t_fresh t_size t_door t_fines t_hours t_longestWalked t_walked t_ends t_happy t_leastBread t_mostBread t_hides : Int32) (t_best : Nat → Int32) (p1_size p1_homes : Int32) (p1_told p1_leading p1_ended : Nat → Int32) : List va_W := [[(a_t, .inr (4, [.int t_fresh, .int t_size, .ref a_t_best, .int t_door, .int t_fines, .int t_hours, .ref a_t_longest, .int t_longestWalked, .int t_walked, .int t_ends, .int t_happy, .int t_leastBread, .int t_mostBread, .int t_hides]))], [(a_t_best, .inl (cI, 6, .inl t_best))], [(a_p1, .inr (6, [.ref a_p1_told, .ref a_p1_leading, .ref a_p1_ended, .ref a_p1_march, .int p1_size, .int p1_homes]))], [(a_p1_told, .inl (cI, 6, .inl p1_told))], [(a_p1_leading, .inl (cI, 6, .inl p1_leading))], [(a_p1_ended, .inl (cI, 6, .inl p1_ended))]]
def rmX4_takeBest : Room := { frames := 1, cells := 0, slots := 0, locals := 24 }
theorem kX4_takeBest_1 : Cond.fieldLink RX4 22 "FeastMarch$Outlook" "door" "I" ∈ wsX4_takeBest := List.mem_of_getElem? (i := 1) rfl
theorem kX4_takeBest_10 : Cond.initialized "java/lang/System" ∈ wsX4_takeBest := List.mem_of_getElem? (i := 10) rfl
theorem kX4_takeBest_2 : Cond.fieldLink RX4 90 "FeastMarch$Outlook" "fines" "I" ∈ wsX4_takeBest := List.mem_of_getElem? (i := 2) rfl
theorem kX4_takeBest_3 : Cond.fieldLink RX4 91 "FeastMarch$Outlook" "hours" "I" ∈ wsX4_takeBest := List.mem_of_getElem? (i := 3) rfl
theorem kX4_takeBest_4 : Cond.fieldLink RX4 94 "FeastMarch$Row" "told" "[I" ∈ wsX4_takeBest := List.mem_of_getElem? (i := 4) rfl
theorem kX4_takeBest_5 : Cond.fieldLink RX4 9 "FeastMarch$Outlook" "best" "[I" ∈ wsX4_takeBest := List.mem_of_getElem? (i := 5) rfl
theorem kX4_takeBest_6 : Cond.fieldLink RX4 18 "FeastMarch$Outlook" "size" "I" ∈ wsX4_takeBest := List.mem_of_getElem? (i := 6) rfl
theorem kX4_takeBest_7 : Cond.methodLink RX4 97 arraycopyName ∈ wsX4_takeBest := List.mem_of_getElem? (i := 7) rfl
theorem kX4_takeBest_8 : Cond.native arraycopyName ∈ wsX4_takeBest := List.mem_of_getElem? (i := 8) rfl
theorem kX4_takeBest_9 : Cond.static arraycopyName ∈ wsX4_takeBest := List.mem_of_getElem? (i := 9) rfl
theorem iX4_takeBest_X4 : ∀ w ∈ wsX40, w ∈ wsX4_takeBest := fun _ h => List.mem_cons_of_mem _ (List.mem_append_left _ (List.mem_append_right _ h))
theorem iX4_takeBest_X6 : ∀ w ∈ wsX60, w ∈ wsX4_takeBest := fun _ h => List.mem_cons_of_mem _ (List.mem_append_right _ h)
theorem n_X4_takeBest : yX4_takeBest.cls = RX4 ∧ yX4_takeBest.cls ≠ "java/lang/invoke/MethodHandle" ∧ yX4_takeBest.cls ≠ "java/lang/invoke/VarHandle" ∧ (parseMethodDescriptor yX4_takeBest.desc).map (fun d => d.parameters.length) = some 4 := by decide +kernel
set_option maxHeartbeats 4000000 in
set_option maxRecDepth 100000 in
theorem c_X4_takeBest (l : Launch) (D : va_G) (N : Nat) (cI cB cZ cM cJ cK : ClassId) (a_t a_t_best a_t_longest a_p1 a_p1_told a_p1_leading a_p1_ended a_p1_march : Nat) (t_fresh t_size t_door t_fines t_hours t_longestWalked t_walked t_ends t_happy t_leastBread t_mostBread t_hides : Int32) (t_best : Nat → Int32) (p1_size p1_homes : Int32) (p1_told p1_leading p1_ended : Nat → Int32) (x2 x3 x4 : Int32) : gM l yX4_takeBest wsX4_takeBest rmX4_takeBest D (gT cI cB cZ cM cJ cK) (wX4_takeBest cI cB cZ cM cJ cK  a_t a_t_best a_t_longest a_p1 a_p1_told a_p1_leading a_p1_ended a_p1_march t_fresh t_size t_door t_fines t_hours t_longestWalked t_walked t_ends t_happy t_leastBread t_mostBread t_hides t_best p1_size p1_homes p1_told p1_leading p1_ended) [.ref a_t, .ref a_p1, .int x2, .int x3, .int x4] (fX4_takeBest N t_size t_door t_fines t_hours t_best p1_told x2 x3 x4) (fun _u : Int32 × Int32 × Int32 × (Nat → Int32) => none) (fun _u : Int32 × Int32 × Int32 × (Nat → Int32) => (wX4_takeBest cI cB cZ cM cJ cK  a_t a_t_best a_t_longest a_p1 a_p1_told a_p1_leading a_p1_ended a_p1_march t_fresh t_size _u.1 _u.2.1 _u.2.2.1 t_longestWalked t_walked t_ends t_happy t_leastBread t_mostBread t_hides _u.2.2.2 p1_size p1_homes p1_told p1_leading p1_ended)) := by
  refine g_start (cc := cX4_takeBest) (maxL := 5) (ret := none) (by decide) rfl (Nat.le_of_ble_eq_true rfl) ?_
  intro F hf hF p e s m below meth c A ls S hK hA Wd hr hlk hnm hl
  have b42 : ∀ (t_door t_fines t_hours : Int32) (t_best : Nat → Int32) (H1 : Heap) (locs1 : List Loc) (ls1 : Array Slot), gw D A s.heap (wX4_takeBest cI cB cZ cM cJ cK  a_t a_t_best a_t_longest a_p1 a_p1_told a_p1_leading a_p1_ended a_p1_march t_fresh t_size t_door t_fines t_hours t_longestWalked t_walked t_ends t_happy t_leastBread t_mostBread t_hides t_best p1_size p1_homes p1_told p1_leading p1_ended) H1 locs1 → lv_has ls1 5 [(0, .ref a_t), (1, .ref a_p1), (2, .int x2), (3, .int x3), (4, .int x4)] → F = fX4_takeBest_b42 N t_size p1_told x2 x3 x4  t_door t_fines t_hours t_best → W p l e rmX4_takeBest s m [.ref a_t, .ref a_p1, .int x2, .int x3, .int x4].toArray below meth c H1 locs1 0 0 (MQ below (gQ F (fun _u : Int32 × Int32 × Int32 × (Nat → Int32) => none) (fun _u : Int32 × Int32 × Int32 × (Nat → Int32) => (wX4_takeBest cI cB cZ cM cJ cK  a_t a_t_best a_t_longest a_p1 a_p1_told a_p1_leading a_p1_ended a_p1_march t_fresh t_size _u.1 _u.2.1 _u.2.2.1 t_longestWalked t_walked t_ends t_happy t_leastBread t_mostBread t_hides _u.2.2.2 p1_size p1_homes p1_told p1_leading p1_ended)) D A) [.ref a_t, .ref a_p1, .int x2, .int x3, .int x4].toArray s 0 0 A) (F0 m 42 ls1 []) := by
    intro  t_door t_fines t_hours t_best H locs ls Wd hl hf
    refine lv_aload_n S.1 S.2.1 dX4_takeBest_42 rfl (lv_at hl 0 rfl) ?_
    refine lv_iload_n S.1 S.2.1 dX4_takeBest_43 rfl (lv_at hl 2 rfl) ?_
    refine g_put (a := a_t) (ws' := (wX4_takeBest cI cB cZ cM cJ cK  a_t a_t_best a_t_longest a_p1 a_p1_told a_p1_leading a_p1_ended a_p1_march t_fresh t_size x2 t_fines t_hours t_longestWalked t_walked t_ends t_happy t_leastBread t_mostBread t_hides t_best p1_size p1_homes p1_told p1_leading p1_ended)) S hK Wd iX4_takeBest_X4 tyX4 tyX4_ok nmX4 0 rfl rfl 3 rfl rfl kX4_takeBest_1 rfl rfl rfl dX4_takeBest_44 rfl (fun H locs Wd => ?_)
    refine lv_aload_n S.1 S.2.1 dX4_takeBest_47 rfl (lv_at hl 0 rfl) ?_
    refine lv_iload_n S.1 S.2.1 dX4_takeBest_48 rfl (lv_at hl 3 rfl) ?_
    refine g_put (a := a_t) (ws' := (wX4_takeBest cI cB cZ cM cJ cK  a_t a_t_best a_t_longest a_p1 a_p1_told a_p1_leading a_p1_ended a_p1_march t_fresh t_size x2 x3 t_hours t_longestWalked t_walked t_ends t_happy t_leastBread t_mostBread t_hides t_best p1_size p1_homes p1_told p1_leading p1_ended)) S hK Wd iX4_takeBest_X4 tyX4 tyX4_ok nmX4 0 rfl rfl 4 rfl rfl kX4_takeBest_2 rfl rfl rfl dX4_takeBest_49 rfl (fun H locs Wd => ?_)
    refine lv_aload_n S.1 S.2.1 dX4_takeBest_52 rfl (lv_at hl 0 rfl) ?_
    refine lv_iload S.1 S.2.1 dX4_takeBest_53 (lv_at hl 4 rfl) ?_
    refine g_put (a := a_t) (ws' := (wX4_takeBest cI cB cZ cM cJ cK  a_t a_t_best a_t_longest a_p1 a_p1_told a_p1_leading a_p1_ended a_p1_march t_fresh t_size x2 x3 x4 t_longestWalked t_walked t_ends t_happy t_leastBread t_mostBread t_hides t_best p1_size p1_homes p1_told p1_leading p1_ended)) S hK Wd iX4_takeBest_X4 tyX4 tyX4_ok nmX4 0 rfl rfl 5 rfl rfl kX4_takeBest_3 rfl rfl rfl dX4_takeBest_55 rfl (fun H locs Wd => ?_)
    refine lv_aload_n S.1 S.2.1 dX4_takeBest_58 rfl (lv_at hl 1 rfl) ?_
    refine g_get (a := a_p1) S hK Wd iX4_takeBest_X6 2 rfl rfl 0 rfl rfl kX4_takeBest_4 rfl dX4_takeBest_59 ?_
    refine lv_iconst (v := 0) S.1 S.2.1 dX4_takeBest_62 (by decide) ?_
    refine lv_aload_n S.1 S.2.1 dX4_takeBest_63 rfl (lv_at hl 0 rfl) ?_
    refine g_get (a := a_t) S hK Wd iX4_takeBest_X4 0 rfl rfl 2 rfl rfl kX4_takeBest_5 rfl dX4_takeBest_64 ?_
    refine lv_iconst (v := 0) S.1 S.2.1 dX4_takeBest_67 (by decide) ?_
    refine lv_aload_n S.1 S.2.1 dX4_takeBest_68 rfl (lv_at hl 0 rfl) ?_
    refine g_get (a := a_t) S hK Wd iX4_takeBest_X4 0 rfl rfl 1 rfl rfl kX4_takeBest_6 rfl dX4_takeBest_69 ?_
    obtain ⟨h6, hf⟩ := g_gc hF hf
    obtain ⟨h7, hf⟩ := g_gc hF hf
    obtain ⟨h8, hf⟩ := g_gc hF hf
    obtain ⟨h9, hf⟩ := g_gc hF hf
    obtain ⟨h10, hf⟩ := g_gc hF hf
    refine g_copy (a0 := a_p1_told) (a := a_t_best) (ws' := (wX4_takeBest cI cB cZ cM cJ cK  a_t a_t_best a_t_longest a_p1 a_p1_told a_p1_leading a_p1_ended a_p1_march t_fresh t_size x2 x3 x4 t_longestWalked t_walked t_ends t_happy t_leastBread t_mostBread t_hides (va_cpy p1_told t_best (0 : Int32).toNatClampNeg (0 : Int32).toNatClampNeg t_size.toNatClampNeg) p1_size p1_homes p1_told p1_leading p1_ended)) (rest := []) S hK Wd hl.1 (S.2.2.2.2 _ kX4_takeBest_7) (S.2.2.2.2 _ kX4_takeBest_8) (S.2.2.2.2 _ kX4_takeBest_9) (S.2.2.2.2 _ kX4_takeBest_10) 3 1 rfl rfl h6 h7 h8 h9 h10 rfl rfl (Nat.le_of_ble_eq_true rfl) (Nat.le_of_ble_eq_true rfl) dX4_takeBest_72 rfl (fun H locs Wd => ?_)
    exact g_vret S Wd hr hlk dX4_takeBest_75 (x2, x3, x4, (va_cpy p1_told t_best (0 : Int32).toNatClampNeg (0 : Int32).toNatClampNeg t_size.toNatClampNeg)) hf rfl rfl
  refine lv_iload_n S.1 S.2.1 dX4_takeBest_0 rfl (lv_at hl 2 rfl) ?_
  refine lv_aload_n S.1 S.2.1 dX4_takeBest_1 rfl (lv_at hl 0 rfl) ?_
  refine g_get (a := a_t) S hK Wd iX4_takeBest_X4 0 rfl rfl 3 rfl rfl kX4_takeBest_1 rfl dX4_takeBest_2 ?_
  refine lv_icmp_lt (tgt := 41) S.1 S.2.1 dX4_takeBest_5 rfl (fun c1 => ?_) (fun c1 => ?_)
  · have hf := g_if hf c1
    exact g_vret S Wd hr hlk dX4_takeBest_41 (t_door, t_fines, t_hours, t_best) hf rfl rfl
  · have hf := g_ifn hf c1
    refine lv_iload_n S.1 S.2.1 dX4_takeBest_8 rfl (lv_at hl 2 rfl) ?_
    refine lv_aload_n S.1 S.2.1 dX4_takeBest_9 rfl (lv_at hl 0 rfl) ?_
    refine g_get (a := a_t) S hK Wd iX4_takeBest_X4 0 rfl rfl 3 rfl rfl kX4_takeBest_1 rfl dX4_takeBest_10 ?_
    refine lv_icmp_ne (tgt := 42) S.1 S.2.1 dX4_takeBest_13 rfl (fun c2 => ?_) (fun c2 => ?_)
    · have hf := g_ifn hf c2
      exact b42  t_door t_fines t_hours t_best _ _ _ Wd hl hf
    · have hf := g_if hf c2
      refine lv_iload_n S.1 S.2.1 dX4_takeBest_16 rfl (lv_at hl 3 rfl) ?_
      refine lv_aload_n S.1 S.2.1 dX4_takeBest_17 rfl (lv_at hl 0 rfl) ?_
      refine g_get (a := a_t) S hK Wd iX4_takeBest_X4 0 rfl rfl 4 rfl rfl kX4_takeBest_2 rfl dX4_takeBest_18 ?_
      refine lv_icmp_gt (tgt := 41) S.1 S.2.1 dX4_takeBest_21 rfl (fun c3 => ?_) (fun c3 => ?_)
      · have hf := g_if hf c3
        exact g_vret S Wd hr hlk dX4_takeBest_41 (t_door, t_fines, t_hours, t_best) hf rfl rfl
      · have hf := g_ifn hf c3
        refine lv_iload_n S.1 S.2.1 dX4_takeBest_24 rfl (lv_at hl 3 rfl) ?_
        refine lv_aload_n S.1 S.2.1 dX4_takeBest_25 rfl (lv_at hl 0 rfl) ?_
        refine g_get (a := a_t) S hK Wd iX4_takeBest_X4 0 rfl rfl 4 rfl rfl kX4_takeBest_2 rfl dX4_takeBest_26 ?_
        refine lv_icmp_ne (tgt := 42) S.1 S.2.1 dX4_takeBest_29 rfl (fun c4 => ?_) (fun c4 => ?_)
        · have hf := g_ifn hf c4
          exact b42  t_door t_fines t_hours t_best _ _ _ Wd hl hf
        · have hf := g_if hf c4
          refine lv_iload S.1 S.2.1 dX4_takeBest_32 (lv_at hl 4 rfl) ?_
          refine lv_aload_n S.1 S.2.1 dX4_takeBest_34 rfl (lv_at hl 0 rfl) ?_
          refine g_get (a := a_t) S hK Wd iX4_takeBest_X4 0 rfl rfl 5 rfl rfl kX4_takeBest_3 rfl dX4_takeBest_35 ?_
          refine lv_icmp_lt (tgt := 42) S.1 S.2.1 dX4_takeBest_38 rfl (fun c5 => ?_) (fun c5 => ?_)
          · have hf := g_if hf c5
            exact b42  t_door t_fines t_hours t_best _ _ _ Wd hl hf
          · have hf := g_ifn hf c5
            exact g_vret S Wd hr hlk dX4_takeBest_41 (t_door, t_fines, t_hours, t_best) hf rfl rfl
def wX4_takeLongest (cI cB cZ cM cJ cK : ClassId) (a_t a_t_best a_t_longest a_p1 a_p1_told a_p1_leading a_p1_ended a_p1_march : Nat) (t_fresh t_size t_door t_fines t_hours t_longestWalked t_walked t_ends t_happy t_leastBread t_mostBread t_hides : Int32) (t_longest : Nat → Int32) (p1_size p1_homes : Int32) (p1_told p1_leading p1_ended : Nat → Int32) (p1_march_at p1_march_hour p1_march_fines p1_march_led p1_march_taken p1_march_shut : Int32) : List va_W := [[(a_t, .inr (4, [.int t_fresh, .int t_size, .ref a_t_best, .int t_door, .int t_fines, .int t_hours, .ref a_t_longest, .int t_longestWalked, .int t_walked, .int t_ends, .int t_happy, .int t_leastBread, .int t_mostBread, .int t_hides]))], [(a_t_longest, .inl (cI, 6, .inl t_longest))], [(a_p1, .inr (6, [.ref a_p1_told, .ref a_p1_leading, .ref a_p1_ended, .ref a_p1_march, .int p1_size, .int p1_homes]))], [(a_p1_told, .inl (cI, 6, .inl p1_told))], [(a_p1_leading, .inl (cI, 6, .inl p1_leading))], [(a_p1_ended, .inl (cI, 6, .inl p1_ended))], [(a_p1_march, .inr (3, [.int p1_march_at, .int p1_march_hour, .int p1_march_fines, .int p1_march_led, .int p1_march_taken, .int p1_march_shut]))]]
def rmX4_takeLongest : Room := { frames := 1, cells := 0, slots := 0, locals := 24 }
theorem kX4_takeLongest_1 : Cond.fieldLink RX4 51 "FeastMarch$Row" "march" "LFeastMarch$March;" ∈ wsX4_takeLongest := List.mem_of_getElem? (i := 1) rfl
theorem kX4_takeLongest_2 : Cond.fieldLink RX4 25 "FeastMarch$Outlook" "longestWalked" "I" ∈ wsX4_takeLongest := List.mem_of_getElem? (i := 2) rfl
theorem kX4_takeLongest_3 : Cond.fieldLink RX4 94 "FeastMarch$Row" "told" "[I" ∈ wsX4_takeLongest := List.mem_of_getElem? (i := 3) rfl
theorem kX4_takeLongest_4 : Cond.fieldLink RX4 15 "FeastMarch$Outlook" "longest" "[I" ∈ wsX4_takeLongest := List.mem_of_getElem? (i := 4) rfl
theorem kX4_takeLongest_5 : Cond.fieldLink RX4 18 "FeastMarch$Outlook" "size" "I" ∈ wsX4_takeLongest := List.mem_of_getElem? (i := 5) rfl
theorem kX4_takeLongest_6 : Cond.methodLink RX4 97 arraycopyName ∈ wsX4_takeLongest := List.mem_of_getElem? (i := 6) rfl
theorem kX4_takeLongest_7 : Cond.native arraycopyName ∈ wsX4_takeLongest := List.mem_of_getElem? (i := 7) rfl
theorem kX4_takeLongest_8 : Cond.static arraycopyName ∈ wsX4_takeLongest := List.mem_of_getElem? (i := 8) rfl
theorem kX4_takeLongest_9 : Cond.initialized "java/lang/System" ∈ wsX4_takeLongest := List.mem_of_getElem? (i := 9) rfl
theorem iX4_takeLongest_X4 : ∀ w ∈ wsX40, w ∈ wsX4_takeLongest := fun _ h => List.mem_cons_of_mem _ (List.mem_append_left _ (List.mem_append_right _ h))
theorem iX4_takeLongest_X6 : ∀ w ∈ wsX60, w ∈ wsX4_takeLongest := fun _ h => List.mem_cons_of_mem _ (List.mem_append_left _ (List.mem_append_left _ (List.mem_append_right _ h)))
theorem n_X4_takeLongest : yX4_takeLongest.cls = RX4 ∧ yX4_takeLongest.cls ≠ "java/lang/invoke/MethodHandle" ∧ yX4_takeLongest.cls ≠ "java/lang/invoke/VarHandle" ∧ (parseMethodDescriptor yX4_takeLongest.desc).map (fun d => d.parameters.length) = some 1 := by decide +kernel
set_option maxHeartbeats 4000000 in
set_option maxRecDepth 100000 in
theorem c_X4_takeLongest (l : Launch) (D : va_G) (N : Nat) (cI cB cZ cM cJ cK : ClassId) (a_t a_t_best a_t_longest a_p1 a_p1_told a_p1_leading a_p1_ended a_p1_march : Nat) (t_fresh t_size t_door t_fines t_hours t_longestWalked t_walked t_ends t_happy t_leastBread t_mostBread t_hides : Int32) (t_longest : Nat → Int32) (p1_size p1_homes : Int32) (p1_told p1_leading p1_ended : Nat → Int32) (p1_march_at p1_march_hour p1_march_fines p1_march_led p1_march_taken p1_march_shut : Int32) : gM l yX4_takeLongest wsX4_takeLongest rmX4_takeLongest D (gT cI cB cZ cM cJ cK) (wX4_takeLongest cI cB cZ cM cJ cK  a_t a_t_best a_t_longest a_p1 a_p1_told a_p1_leading a_p1_ended a_p1_march t_fresh t_size t_door t_fines t_hours t_longestWalked t_walked t_ends t_happy t_leastBread t_mostBread t_hides t_longest p1_size p1_homes p1_told p1_leading p1_ended p1_march_at p1_march_hour p1_march_fines p1_march_led p1_march_taken p1_march_shut) [.ref a_t, .ref a_p1] (fX4_takeLongest N t_size t_longestWalked t_longest p1_told p1_march_taken) (fun _u : Int32 × (Nat → Int32) => none) (fun _u : Int32 × (Nat → Int32) => (wX4_takeLongest cI cB cZ cM cJ cK  a_t a_t_best a_t_longest a_p1 a_p1_told a_p1_leading a_p1_ended a_p1_march t_fresh t_size t_door t_fines t_hours _u.1 t_walked t_ends t_happy t_leastBread t_mostBread t_hides _u.2 p1_size p1_homes p1_told p1_leading p1_ended p1_march_at p1_march_hour p1_march_fines p1_march_led p1_march_taken p1_march_shut)) := by
  refine g_start (cc := cX4_takeLongest) (maxL := 3) (ret := none) (by decide) rfl (Nat.le_of_ble_eq_true rfl) ?_
  intro F hf hF p e s m below meth c A ls S hK hA Wd hr hlk hnm hl
  refine lv_aload_n S.1 S.2.1 dX4_takeLongest_0 rfl (lv_at hl 1 rfl) ?_
  refine g_get (a := a_p1) S hK Wd iX4_takeLongest_X6 2 rfl rfl 3 rfl rfl kX4_takeLongest_1 rfl dX4_takeLongest_1 ?_
  obtain ⟨u1, hu1, hf⟩ := g_bind hF hf
  refine g_callV (ws' := (wX4_takeLongest cI cB cZ cM cJ cK  a_t a_t_best a_t_longest a_p1 a_p1_told a_p1_leading a_p1_ended a_p1_march t_fresh t_size t_door t_fines t_hours t_longestWalked t_walked t_ends t_happy t_leastBread t_mostBread t_hides t_longest p1_size p1_homes p1_told p1_leading p1_ended p1_march_at p1_march_hour p1_march_fines p1_march_led p1_march_taken p1_march_shut)) (As := []) (rest := []) (st1 := [.int u1]) S hK hA Wd (c_X3_walked l D N cI cB cZ cM cJ cK a_p1_march p1_march_at p1_march_hour p1_march_fines p1_march_led p1_march_taken p1_march_shut) (cwV 0 S.2.2.2.2 gX4_takeLongest_X3_walked rfl rfl rfl n_X3_walked ⟨Nat.le_of_ble_eq_true rfl, Nat.le_of_ble_eq_true rfl⟩) hu1 [6] rfl rfl 0 3 rfl rfl rfl rfl rfl rfl rfl hl.1 rfl (Nat.le_of_ble_eq_true rfl) dX4_takeLongest_4 ⟨Nat.zero_le _, Nat.zero_le _⟩ (fun H locs Wd => ?_)
  obtain ⟨u2, hu2, hf⟩ := g_bind hF hf
  refine g_callS (ws' := (wX4_takeLongest cI cB cZ cM cJ cK  a_t a_t_best a_t_longest a_p1 a_p1_told a_p1_leading a_p1_ended a_p1_march t_fresh t_size t_door t_fines t_hours t_longestWalked t_walked t_ends t_happy t_leastBread t_mostBread t_hides t_longest p1_size p1_homes p1_told p1_leading p1_ended p1_march_at p1_march_hour p1_march_fines p1_march_led p1_march_taken p1_march_shut)) (As := [.int u1]) (rest := []) (st1 := [.int u2]) S hK hA Wd (c_J6_bitCount_0f7a4 l D N cI cB cZ cM cJ cK u1) (va_cwS 1 S.2.2.2.2 gX4_takeLongest_J6_bitCount_0f7a4 rfl rfl rfl n_J6_bitCount_0f7a4 ⟨Nat.le_of_ble_eq_true rfl, Nat.le_of_ble_eq_true rfl⟩) hu2 [] rfl rfl rfl rfl rfl rfl hl.1 rfl (Nat.le_of_ble_eq_true rfl) dX4_takeLongest_7 ⟨Nat.zero_le _, Nat.zero_le _⟩ (fun H locs Wd => ?_)
  refine lv_istore_n (lv' := [(2, .int u2), (0, .ref a_t), (1, .ref a_p1)]) S.1 S.2.1 dX4_takeLongest_10 rfl hl (by decide) rfl (fun ls hl => ?_)
  refine lv_iload_n S.1 S.2.1 dX4_takeLongest_11 rfl (lv_at hl 0 rfl) ?_
  refine lv_aload_n S.1 S.2.1 dX4_takeLongest_12 rfl (lv_at hl 1 rfl) ?_
  refine g_get (a := a_t) S hK Wd iX4_takeLongest_X4 0 rfl rfl 7 rfl rfl kX4_takeLongest_2 rfl dX4_takeLongest_13 ?_
  refine lv_icmp_le (tgt := 41) S.1 S.2.1 dX4_takeLongest_16 rfl (fun c3 => ?_) (fun c3 => ?_)
  · have hf := g_if hf c3
    exact g_vret S Wd hr hlk dX4_takeLongest_41 (t_longestWalked, t_longest) hf rfl rfl
  · have hf := g_ifn hf c3
    refine lv_aload_n S.1 S.2.1 dX4_takeLongest_19 rfl (lv_at hl 1 rfl) ?_
    refine lv_iload_n S.1 S.2.1 dX4_takeLongest_20 rfl (lv_at hl 0 rfl) ?_
    refine g_put (a := a_t) (ws' := (wX4_takeLongest cI cB cZ cM cJ cK  a_t a_t_best a_t_longest a_p1 a_p1_told a_p1_leading a_p1_ended a_p1_march t_fresh t_size t_door t_fines t_hours u2 t_walked t_ends t_happy t_leastBread t_mostBread t_hides t_longest p1_size p1_homes p1_told p1_leading p1_ended p1_march_at p1_march_hour p1_march_fines p1_march_led p1_march_taken p1_march_shut)) S hK Wd iX4_takeLongest_X4 tyX4 tyX4_ok nmX4 0 rfl rfl 7 rfl rfl kX4_takeLongest_2 rfl rfl rfl dX4_takeLongest_21 rfl (fun H locs Wd => ?_)
    refine lv_aload_n S.1 S.2.1 dX4_takeLongest_24 rfl (lv_at hl 2 rfl) ?_
    refine g_get (a := a_p1) S hK Wd iX4_takeLongest_X6 2 rfl rfl 0 rfl rfl kX4_takeLongest_3 rfl dX4_takeLongest_25 ?_
    refine lv_iconst (v := 0) S.1 S.2.1 dX4_takeLongest_28 (by decide) ?_
    refine lv_aload_n S.1 S.2.1 dX4_takeLongest_29 rfl (lv_at hl 1 rfl) ?_
    refine g_get (a := a_t) S hK Wd iX4_takeLongest_X4 0 rfl rfl 6 rfl rfl kX4_takeLongest_4 rfl dX4_takeLongest_30 ?_
    refine lv_iconst (v := 0) S.1 S.2.1 dX4_takeLongest_33 (by decide) ?_
    refine lv_aload_n S.1 S.2.1 dX4_takeLongest_34 rfl (lv_at hl 1 rfl) ?_
    refine g_get (a := a_t) S hK Wd iX4_takeLongest_X4 0 rfl rfl 1 rfl rfl kX4_takeLongest_5 rfl dX4_takeLongest_35 ?_
    obtain ⟨h4, hf⟩ := g_gc hF hf
    obtain ⟨h5, hf⟩ := g_gc hF hf
    obtain ⟨h6, hf⟩ := g_gc hF hf
    obtain ⟨h7, hf⟩ := g_gc hF hf
    obtain ⟨h8, hf⟩ := g_gc hF hf
    refine g_copy (a0 := a_p1_told) (a := a_t_longest) (ws' := (wX4_takeLongest cI cB cZ cM cJ cK  a_t a_t_best a_t_longest a_p1 a_p1_told a_p1_leading a_p1_ended a_p1_march t_fresh t_size t_door t_fines t_hours u2 t_walked t_ends t_happy t_leastBread t_mostBread t_hides (va_cpy p1_told t_longest (0 : Int32).toNatClampNeg (0 : Int32).toNatClampNeg t_size.toNatClampNeg) p1_size p1_homes p1_told p1_leading p1_ended p1_march_at p1_march_hour p1_march_fines p1_march_led p1_march_taken p1_march_shut)) (rest := []) S hK Wd hl.1 (S.2.2.2.2 _ kX4_takeLongest_6) (S.2.2.2.2 _ kX4_takeLongest_7) (S.2.2.2.2 _ kX4_takeLongest_8) (S.2.2.2.2 _ kX4_takeLongest_9) 3 1 rfl rfl h4 h5 h6 h7 h8 rfl rfl (Nat.le_of_ble_eq_true rfl) (Nat.le_of_ble_eq_true rfl) dX4_takeLongest_38 rfl (fun H locs Wd => ?_)
    exact g_vret S Wd hr hlk dX4_takeLongest_41 (u2, (va_cpy p1_told t_longest (0 : Int32).toNatClampNeg (0 : Int32).toNatClampNeg t_size.toNatClampNeg)) hf rfl rfl
def wX4_take (cI cB cZ cM cJ cK : ClassId) (a_t a_t_best a_t_longest a_p1 a_p1_told a_p1_leading a_p1_ended a_p1_march a_p2 : Nat) (t_fresh t_size t_door t_fines t_hours t_longestWalked t_walked t_ends t_happy t_leastBread t_mostBread t_hides : Int32) (t_best t_longest : Nat → Int32) (p1_size p1_homes : Int32) (p1_told p1_leading p1_ended : Nat → Int32) (p1_march_at p1_march_hour p1_march_fines p1_march_led p1_march_taken p1_march_shut p2_at p2_hour p2_fines p2_led p2_taken p2_shut : Int32) : List va_W := [[(a_t, .inr (4, [.int t_fresh, .int t_size, .ref a_t_best, .int t_door, .int t_fines, .int t_hours, .ref a_t_longest, .int t_longestWalked, .int t_walked, .int t_ends, .int t_happy, .int t_leastBread, .int t_mostBread, .int t_hides]))], [(a_t_best, .inl (cI, 6, .inl t_best))], [(a_t_longest, .inl (cI, 6, .inl t_longest))], [(a_p1, .inr (6, [.ref a_p1_told, .ref a_p1_leading, .ref a_p1_ended, .ref a_p1_march, .int p1_size, .int p1_homes]))], [(a_p1_told, .inl (cI, 6, .inl p1_told))], [(a_p1_leading, .inl (cI, 6, .inl p1_leading))], [(a_p1_ended, .inl (cI, 6, .inl p1_ended))], [(a_p1_march, .inr (3, [.int p1_march_at, .int p1_march_hour, .int p1_march_fines, .int p1_march_led, .int p1_march_taken, .int p1_march_shut]))], [(a_p2, .inr (3, [.int p2_at, .int p2_hour, .int p2_fines, .int p2_led, .int p2_taken, .int p2_shut]))]]
def rmX4_take : Room := { frames := 2, cells := 0, slots := 0, locals := 48 }
theorem kX4_take_1 : Cond.fieldLink RX4 51 "FeastMarch$Row" "march" "LFeastMarch$March;" ∈ wsX4_take := List.mem_of_getElem? (i := 1) rfl
theorem kX4_take_10 : Cond.fieldLink RX4 75 "FeastMarch$Row" "homes" "I" ∈ wsX4_take := List.mem_of_getElem? (i := 10) rfl
theorem kX4_take_11 : Cond.methodLink RX4 78 Lib.Math.max.name ∈ wsX4_take := List.mem_of_getElem? (i := 11) rfl
theorem kX4_take_12 : Cond.static Lib.Math.max.name ∈ wsX4_take := List.mem_of_getElem? (i := 12) rfl
theorem kX4_take_13 : Cond.initialized "java/lang/Math" ∈ wsX4_take := List.mem_of_getElem? (i := 13) rfl
theorem kX4_take_14 : Cond.code Lib.Math.max.name Lib.Math.max.code 2 (some .int) ∈ wsX4_take := List.mem_of_getElem? (i := 14) rfl
theorem kX4_take_15 : Cond.fieldLink RX4 42 "FeastMarch$Outlook" "leastBread" "I" ∈ wsX4_take := List.mem_of_getElem? (i := 15) rfl
theorem kX4_take_16 : Cond.methodLink RX4 84 Lib.Math.min.name ∈ wsX4_take := List.mem_of_getElem? (i := 16) rfl
theorem kX4_take_17 : Cond.static Lib.Math.min.name ∈ wsX4_take := List.mem_of_getElem? (i := 17) rfl
theorem kX4_take_18 : Cond.code Lib.Math.min.name Lib.Math.min.code 2 (some .int) ∈ wsX4_take := List.mem_of_getElem? (i := 18) rfl
theorem kX4_take_19 : Cond.fieldLink RX4 45 "FeastMarch$Outlook" "mostBread" "I" ∈ wsX4_take := List.mem_of_getElem? (i := 19) rfl
theorem kX4_take_2 : Cond.fieldLink RX4 57 "FeastMarch$Row" "size" "I" ∈ wsX4_take := List.mem_of_getElem? (i := 2) rfl
theorem kX4_take_20 : Cond.fieldLink RX4 48 "FeastMarch$Outlook" "hides" "I" ∈ wsX4_take := List.mem_of_getElem? (i := 20) rfl
theorem kX4_take_21 : Cond.fieldLink RX4 87 "FeastMarch$Row" "leading" "[I" ∈ wsX4_take := List.mem_of_getElem? (i := 21) rfl
theorem kX4_take_3 : Cond.fieldLink RX4 18 "FeastMarch$Outlook" "size" "I" ∈ wsX4_take := List.mem_of_getElem? (i := 3) rfl
theorem kX4_take_4 : Cond.fieldLink RX4 58 "FeastMarch$March" "hour" "I" ∈ wsX4_take := List.mem_of_getElem? (i := 4) rfl
theorem kX4_take_5 : Cond.fieldLink RX4 61 "FeastMarch$March" "fines" "I" ∈ wsX4_take := List.mem_of_getElem? (i := 5) rfl
theorem kX4_take_6 : Cond.fieldLink RX4 34 "FeastMarch$Outlook" "walked" "I" ∈ wsX4_take := List.mem_of_getElem? (i := 6) rfl
theorem kX4_take_7 : Cond.fieldLink RX4 36 "FeastMarch$Outlook" "ends" "I" ∈ wsX4_take := List.mem_of_getElem? (i := 7) rfl
theorem kX4_take_8 : Cond.fieldLink RX4 72 "FeastMarch$March" "at" "I" ∈ wsX4_take := List.mem_of_getElem? (i := 8) rfl
theorem kX4_take_9 : Cond.fieldLink RX4 39 "FeastMarch$Outlook" "happy" "I" ∈ wsX4_take := List.mem_of_getElem? (i := 9) rfl
theorem iX4_take_X3 : ∀ w ∈ wsX30, w ∈ wsX4_take := fun _ h => List.mem_cons_of_mem _ (List.mem_append_right _ h)
theorem iX4_take_X4 : ∀ w ∈ wsX40, w ∈ wsX4_take := fun _ h => List.mem_cons_of_mem _ (List.mem_append_left _ (List.mem_append_right _ h))
theorem iX4_take_X6 : ∀ w ∈ wsX60, w ∈ wsX4_take := fun _ h => List.mem_cons_of_mem _ (List.mem_append_left _ (List.mem_append_left _ (List.mem_append_right _ h)))
theorem n_X4_take : yX4_take.cls = RX4 ∧ yX4_take.cls ≠ "java/lang/invoke/MethodHandle" ∧ yX4_take.cls ≠ "java/lang/invoke/VarHandle" ∧ (parseMethodDescriptor yX4_take.desc).map (fun d => d.parameters.length) = some 3 := by decide +kernel
set_option maxHeartbeats 4000000 in
set_option maxRecDepth 100000 in
theorem c_X4_take (l : Launch) (D : va_G) (N : Nat) (cI cB cZ cM cJ cK : ClassId) (a_t a_t_best a_t_longest a_p1 a_p1_told a_p1_leading a_p1_ended a_p1_march a_p2 : Nat) (t_fresh t_size t_door t_fines t_hours t_longestWalked t_walked t_ends t_happy t_leastBread t_mostBread t_hides : Int32) (t_best t_longest : Nat → Int32) (p1_size p1_homes : Int32) (p1_told p1_leading p1_ended : Nat → Int32) (p1_march_at p1_march_hour p1_march_fines p1_march_led p1_march_taken p1_march_shut p2_at p2_hour p2_fines p2_led p2_taken p2_shut x3 : Int32) : gM l yX4_take wsX4_take rmX4_take D (gT cI cB cZ cM cJ cK) (wX4_take cI cB cZ cM cJ cK  a_t a_t_best a_t_longest a_p1 a_p1_told a_p1_leading a_p1_ended a_p1_march a_p2 t_fresh t_size t_door t_fines t_hours t_longestWalked t_walked t_ends t_happy t_leastBread t_mostBread t_hides t_best t_longest p1_size p1_homes p1_told p1_leading p1_ended p1_march_at p1_march_hour p1_march_fines p1_march_led p1_march_taken p1_march_shut p2_at p2_hour p2_fines p2_led p2_taken p2_shut) [.ref a_t, .ref a_p1, .ref a_p2, .int x3] (fX4_take N t_size t_door t_fines t_hours t_longestWalked t_walked t_ends t_happy t_leastBread t_mostBread t_hides t_best t_longest p1_size p1_homes p1_told p1_leading p1_march_at p1_march_hour p1_march_fines p1_march_taken p2_hour p2_fines x3) (fun _u : Int32 × Int32 × Int32 × Int32 × Int32 × Int32 × Int32 × Int32 × Int32 × Int32 × Int32 × (Nat → Int32) × (Nat → Int32) => none) (fun _u : Int32 × Int32 × Int32 × Int32 × Int32 × Int32 × Int32 × Int32 × Int32 × Int32 × Int32 × (Nat → Int32) × (Nat → Int32) => (wX4_take cI cB cZ cM cJ cK  a_t a_t_best a_t_longest a_p1 a_p1_told a_p1_leading a_p1_ended a_p1_march a_p2 t_fresh _u.1 _u.2.1 _u.2.2.1 _u.2.2.2.1 _u.2.2.2.2.1 _u.2.2.2.2.2.1 _u.2.2.2.2.2.2.1 _u.2.2.2.2.2.2.2.1 _u.2.2.2.2.2.2.2.2.1 _u.2.2.2.2.2.2.2.2.2.1 _u.2.2.2.2.2.2.2.2.2.2.1 _u.2.2.2.2.2.2.2.2.2.2.2.1 _u.2.2.2.2.2.2.2.2.2.2.2.2 p1_size p1_homes p1_told p1_leading p1_ended p1_march_at p1_march_hour p1_march_fines p1_march_led p1_march_taken p1_march_shut p2_at p2_hour p2_fines p2_led p2_taken p2_shut)) := by
  refine g_start (cc := cX4_take) (maxL := 6) (ret := none) (by decide) rfl (Nat.le_of_ble_eq_true rfl) ?_
  intro F hf hF p e s m below meth c A ls S hK hA Wd hr hlk hnm hl
  have b37 : ∀ (t_size t_door t_fines t_hours t_longestWalked t_walked t_ends t_happy t_leastBread t_mostBread t_hides : Int32) (t_best t_longest : Nat → Int32) (x5 y0 : Int32) (H1 : Heap) (locs1 : List Loc) (ls1 : Array Slot), gw D A s.heap (wX4_take cI cB cZ cM cJ cK  a_t a_t_best a_t_longest a_p1 a_p1_told a_p1_leading a_p1_ended a_p1_march a_p2 t_fresh t_size t_door t_fines t_hours t_longestWalked t_walked t_ends t_happy t_leastBread t_mostBread t_hides t_best t_longest p1_size p1_homes p1_told p1_leading p1_ended p1_march_at p1_march_hour p1_march_fines p1_march_led p1_march_taken p1_march_shut p2_at p2_hour p2_fines p2_led p2_taken p2_shut) H1 locs1 → lv_has ls1 6 [(0, .ref a_t), (1, .ref a_p1), (2, .ref a_p2), (3, .int x3), (4, .ref a_p1_march), (5, .int x5)] → F = fX4_take_b37 N p1_size p1_homes p1_told p1_leading p1_march_at p1_march_hour p1_march_fines p1_march_taken p2_hour p2_fines x3  t_size t_door t_fines t_hours t_longestWalked t_walked t_ends t_happy t_leastBread t_mostBread t_hides t_best t_longest x5 y0 → W p l e rmX4_take s m [.ref a_t, .ref a_p1, .ref a_p2, .int x3].toArray below meth c H1 locs1 0 0 (MQ below (gQ F (fun _u : Int32 × Int32 × Int32 × Int32 × Int32 × Int32 × Int32 × Int32 × Int32 × Int32 × Int32 × (Nat → Int32) × (Nat → Int32) => none) (fun _u : Int32 × Int32 × Int32 × Int32 × Int32 × Int32 × Int32 × Int32 × Int32 × Int32 × Int32 × (Nat → Int32) × (Nat → Int32) => (wX4_take cI cB cZ cM cJ cK  a_t a_t_best a_t_longest a_p1 a_p1_told a_p1_leading a_p1_ended a_p1_march a_p2 t_fresh _u.1 _u.2.1 _u.2.2.1 _u.2.2.2.1 _u.2.2.2.2.1 _u.2.2.2.2.2.1 _u.2.2.2.2.2.2.1 _u.2.2.2.2.2.2.2.1 _u.2.2.2.2.2.2.2.2.1 _u.2.2.2.2.2.2.2.2.2.1 _u.2.2.2.2.2.2.2.2.2.2.1 _u.2.2.2.2.2.2.2.2.2.2.2.1 _u.2.2.2.2.2.2.2.2.2.2.2.2 p1_size p1_homes p1_told p1_leading p1_ended p1_march_at p1_march_hour p1_march_fines p1_march_led p1_march_taken p1_march_shut p2_at p2_hour p2_fines p2_led p2_taken p2_shut)) D A) [.ref a_t, .ref a_p1, .ref a_p2, .int x3].toArray s 0 0 A) (F0 m 37 ls1 [.int y0, .ref a_p1, .ref a_t]) := by
    intro  t_size t_door t_fines t_hours t_longestWalked t_walked t_ends t_happy t_leastBread t_mostBread t_hides t_best t_longest x5 y0 H locs ls Wd hl hf
    refine lv_aload S.1 S.2.1 dX4_take_37 (lv_at hl 4 rfl) ?_
    refine g_get (a := a_p1_march) S hK Wd iX4_take_X3 7 rfl rfl 2 rfl rfl kX4_take_5 rfl dX4_take_39 ?_
    refine lv_aload_n S.1 S.2.1 dX4_take_42 rfl (lv_at hl 2 rfl) ?_
    refine g_get (a := a_p2) S hK Wd iX4_take_X3 8 rfl rfl 2 rfl rfl kX4_take_5 rfl dX4_take_43 ?_
    refine lv_isub S.1 S.2.1 dX4_take_46 ?_
    refine lv_iload S.1 S.2.1 dX4_take_47 (lv_at hl 5 rfl) ?_
    obtain ⟨u2, hu2, hf⟩ := g_bind hF hf
    refine g_callV (ws' := (wX4_take cI cB cZ cM cJ cK  a_t a_t_best a_t_longest a_p1 a_p1_told a_p1_leading a_p1_ended a_p1_march a_p2 t_fresh t_size u2.1 u2.2.1 u2.2.2.1 t_longestWalked t_walked t_ends t_happy t_leastBread t_mostBread t_hides u2.2.2.2 t_longest p1_size p1_homes p1_told p1_leading p1_ended p1_march_at p1_march_hour p1_march_fines p1_march_led p1_march_taken p1_march_shut p2_at p2_hour p2_fines p2_led p2_taken p2_shut)) (As := [.ref a_p1, .int y0, .int (p1_march_fines - p2_fines), .int x5]) (rest := []) (st1 := []) S hK hA Wd (c_X4_takeBest l D N cI cB cZ cM cJ cK a_t a_t_best a_t_longest a_p1 a_p1_told a_p1_leading a_p1_ended a_p1_march t_fresh t_size t_door t_fines t_hours t_longestWalked t_walked t_ends t_happy t_leastBread t_mostBread t_hides t_best p1_size p1_homes p1_told p1_leading p1_ended y0 (p1_march_fines - p2_fines) x5) (cwV 4 S.2.2.2.2 gX4_take_X4_takeBest rfl rfl rfl n_X4_takeBest ⟨Nat.le_of_ble_eq_true rfl, Nat.le_of_ble_eq_true rfl⟩) hu2 [0, 1, 3, 4, 5, 6] rfl rfl 0 4 rfl rfl rfl rfl rfl rfl rfl hl.1 rfl (Nat.le_of_ble_eq_true rfl) dX4_take_49 ⟨Nat.zero_le _, Nat.zero_le _⟩ (fun H locs Wd => ?_)
    refine lv_aload_n S.1 S.2.1 dX4_take_52 rfl (lv_at hl 0 rfl) ?_
    refine lv_aload_n S.1 S.2.1 dX4_take_53 rfl (lv_at hl 1 rfl) ?_
    obtain ⟨u3, hu3, hf⟩ := g_bind hF hf
    refine g_callV (ws' := (wX4_take cI cB cZ cM cJ cK  a_t a_t_best a_t_longest a_p1 a_p1_told a_p1_leading a_p1_ended a_p1_march a_p2 t_fresh t_size u2.1 u2.2.1 u2.2.2.1 u3.1 t_walked t_ends t_happy t_leastBread t_mostBread t_hides u2.2.2.2 u3.2 p1_size p1_homes p1_told p1_leading p1_ended p1_march_at p1_march_hour p1_march_fines p1_march_led p1_march_taken p1_march_shut p2_at p2_hour p2_fines p2_led p2_taken p2_shut)) (As := [.ref a_p1]) (rest := []) (st1 := []) S hK hA Wd (c_X4_takeLongest l D N cI cB cZ cM cJ cK a_t a_t_best a_t_longest a_p1 a_p1_told a_p1_leading a_p1_ended a_p1_march t_fresh t_size u2.1 u2.2.1 u2.2.2.1 t_longestWalked t_walked t_ends t_happy t_leastBread t_mostBread t_hides t_longest p1_size p1_homes p1_told p1_leading p1_ended p1_march_at p1_march_hour p1_march_fines p1_march_led p1_march_taken p1_march_shut) (cwV 1 S.2.2.2.2 gX4_take_X4_takeLongest rfl rfl rfl n_X4_takeLongest ⟨Nat.le_of_ble_eq_true rfl, Nat.le_of_ble_eq_true rfl⟩) hu3 [0, 2, 3, 4, 5, 6, 7] rfl rfl 0 4 rfl rfl rfl rfl rfl rfl rfl hl.1 rfl (Nat.le_of_ble_eq_true rfl) dX4_take_54 ⟨Nat.zero_le _, Nat.zero_le _⟩ (fun H locs Wd => ?_)
    refine lv_aload_n S.1 S.2.1 dX4_take_57 rfl (lv_at hl 0 rfl) ?_
    refine lv_dup S.1 S.2.1 dX4_take_58 rfl ?_
    refine g_get (a := a_t) S hK Wd iX4_take_X4 0 rfl rfl 8 rfl rfl kX4_take_6 rfl dX4_take_59 ?_
    refine lv_aload S.1 S.2.1 dX4_take_62 (lv_at hl 4 rfl) ?_
    obtain ⟨u4, hu4, hf⟩ := g_bind hF hf
    refine g_callV (ws' := (wX4_take cI cB cZ cM cJ cK  a_t a_t_best a_t_longest a_p1 a_p1_told a_p1_leading a_p1_ended a_p1_march a_p2 t_fresh t_size u2.1 u2.2.1 u2.2.2.1 u3.1 t_walked t_ends t_happy t_leastBread t_mostBread t_hides u2.2.2.2 u3.2 p1_size p1_homes p1_told p1_leading p1_ended p1_march_at p1_march_hour p1_march_fines p1_march_led p1_march_taken p1_march_shut p2_at p2_hour p2_fines p2_led p2_taken p2_shut)) (As := []) (rest := [.int t_walked, .ref a_t]) (st1 := [.int u4, .int t_walked, .ref a_t]) S hK hA Wd (c_X3_walked l D N cI cB cZ cM cJ cK a_p1_march p1_march_at p1_march_hour p1_march_fines p1_march_led p1_march_taken p1_march_shut) (cwV 0 S.2.2.2.2 gX4_take_X3_walked rfl rfl rfl n_X3_walked ⟨Nat.le_of_ble_eq_true rfl, Nat.le_of_ble_eq_true rfl⟩) hu4 [7] rfl rfl 0 3 rfl rfl rfl rfl rfl rfl rfl hl.1 rfl (Nat.le_of_ble_eq_true rfl) dX4_take_64 ⟨Nat.zero_le _, Nat.zero_le _⟩ (fun H locs Wd => ?_)
    refine lv_ior S.1 S.2.1 dX4_take_67 ?_
    refine g_put (a := a_t) (ws' := (wX4_take cI cB cZ cM cJ cK  a_t a_t_best a_t_longest a_p1 a_p1_told a_p1_leading a_p1_ended a_p1_march a_p2 t_fresh t_size u2.1 u2.2.1 u2.2.2.1 u3.1 (t_walked ||| u4) t_ends t_happy t_leastBread t_mostBread t_hides u2.2.2.2 u3.2 p1_size p1_homes p1_told p1_leading p1_ended p1_march_at p1_march_hour p1_march_fines p1_march_led p1_march_taken p1_march_shut p2_at p2_hour p2_fines p2_led p2_taken p2_shut)) S hK Wd iX4_take_X4 tyX4 tyX4_ok nmX4 0 rfl rfl 8 rfl rfl kX4_take_6 rfl rfl rfl dX4_take_68 rfl (fun H locs Wd => ?_)
    refine lv_aload_n S.1 S.2.1 dX4_take_71 rfl (lv_at hl 0 rfl) ?_
    refine lv_dup S.1 S.2.1 dX4_take_72 rfl ?_
    refine g_get (a := a_t) S hK Wd iX4_take_X4 0 rfl rfl 9 rfl rfl kX4_take_7 rfl dX4_take_73 ?_
    refine lv_iconst (v := 1) S.1 S.2.1 dX4_take_76 (by decide) ?_
    refine lv_aload S.1 S.2.1 dX4_take_77 (lv_at hl 4 rfl) ?_
    refine g_get (a := a_p1_march) S hK Wd iX4_take_X3 7 rfl rfl 0 rfl rfl kX4_take_8 rfl dX4_take_79 ?_
    refine lv_ishl S.1 S.2.1 dX4_take_82 ?_
    refine lv_ior S.1 S.2.1 dX4_take_83 ?_
    refine g_put (a := a_t) (ws' := (wX4_take cI cB cZ cM cJ cK  a_t a_t_best a_t_longest a_p1 a_p1_told a_p1_leading a_p1_ended a_p1_march a_p2 t_fresh t_size u2.1 u2.2.1 u2.2.2.1 u3.1 (t_walked ||| u4) (t_ends ||| ((1 : Int32) <<< (p1_march_at &&& 31))) t_happy t_leastBread t_mostBread t_hides u2.2.2.2 u3.2 p1_size p1_homes p1_told p1_leading p1_ended p1_march_at p1_march_hour p1_march_fines p1_march_led p1_march_taken p1_march_shut p2_at p2_hour p2_fines p2_led p2_taken p2_shut)) S hK Wd iX4_take_X4 tyX4 tyX4_ok nmX4 0 rfl rfl 9 rfl rfl kX4_take_7 rfl rfl rfl dX4_take_84 rfl (fun H locs Wd => ?_)
    refine lv_aload_n S.1 S.2.1 dX4_take_87 rfl (lv_at hl 0 rfl) ?_
    refine lv_aload_n S.1 S.2.1 dX4_take_88 rfl (lv_at hl 0 rfl) ?_
    refine g_get (a := a_t) S hK Wd iX4_take_X4 0 rfl rfl 10 rfl rfl kX4_take_9 rfl dX4_take_89 ?_
    refine lv_aload_n S.1 S.2.1 dX4_take_92 rfl (lv_at hl 1 rfl) ?_
    refine g_get (a := a_p1) S hK Wd iX4_take_X6 3 rfl rfl 5 rfl rfl kX4_take_10 rfl dX4_take_93 ?_
    refine va_mmax S.1 S.2.1 (S.2.2.1.trans hl.1.symm) S.2.2.2.1 (S.2.2.2.2 _ kX4_take_11) (S.2.2.2.2 _ kX4_take_12) (S.2.2.2.2 _ kX4_take_13) (S.2.2.2.2 _ kX4_take_14) (Nat.le_of_ble_eq_true rfl) (Nat.le_of_ble_eq_true rfl) (Nat.zero_le _) (Nat.zero_le _) dX4_take_96 ?_
    refine g_put (a := a_t) (ws' := (wX4_take cI cB cZ cM cJ cK  a_t a_t_best a_t_longest a_p1 a_p1_told a_p1_leading a_p1_ended a_p1_march a_p2 t_fresh t_size u2.1 u2.2.1 u2.2.2.1 u3.1 (t_walked ||| u4) (t_ends ||| ((1 : Int32) <<< (p1_march_at &&& 31))) (if t_happy < p1_homes then p1_homes else t_happy) t_leastBread t_mostBread t_hides u2.2.2.2 u3.2 p1_size p1_homes p1_told p1_leading p1_ended p1_march_at p1_march_hour p1_march_fines p1_march_led p1_march_taken p1_march_shut p2_at p2_hour p2_fines p2_led p2_taken p2_shut)) S hK Wd iX4_take_X4 tyX4 tyX4_ok nmX4 0 rfl rfl 10 rfl rfl kX4_take_9 rfl rfl rfl dX4_take_99 rfl (fun H locs Wd => ?_)
    refine lv_aload_n S.1 S.2.1 dX4_take_102 rfl (lv_at hl 0 rfl) ?_
    refine lv_aload_n S.1 S.2.1 dX4_take_103 rfl (lv_at hl 0 rfl) ?_
    refine g_get (a := a_t) S hK Wd iX4_take_X4 0 rfl rfl 11 rfl rfl kX4_take_15 rfl dX4_take_104 ?_
    refine lv_iload S.1 S.2.1 dX4_take_107 (lv_at hl 5 rfl) ?_
    refine va_mmin S.1 S.2.1 (S.2.2.1.trans hl.1.symm) S.2.2.2.1 (S.2.2.2.2 _ kX4_take_16) (S.2.2.2.2 _ kX4_take_17) (S.2.2.2.2 _ kX4_take_13) (S.2.2.2.2 _ kX4_take_18) (Nat.le_of_ble_eq_true rfl) (Nat.le_of_ble_eq_true rfl) (Nat.zero_le _) (Nat.zero_le _) dX4_take_109 ?_
    refine g_put (a := a_t) (ws' := (wX4_take cI cB cZ cM cJ cK  a_t a_t_best a_t_longest a_p1 a_p1_told a_p1_leading a_p1_ended a_p1_march a_p2 t_fresh t_size u2.1 u2.2.1 u2.2.2.1 u3.1 (t_walked ||| u4) (t_ends ||| ((1 : Int32) <<< (p1_march_at &&& 31))) (if t_happy < p1_homes then p1_homes else t_happy) (if x5 < t_leastBread then x5 else t_leastBread) t_mostBread t_hides u2.2.2.2 u3.2 p1_size p1_homes p1_told p1_leading p1_ended p1_march_at p1_march_hour p1_march_fines p1_march_led p1_march_taken p1_march_shut p2_at p2_hour p2_fines p2_led p2_taken p2_shut)) S hK Wd iX4_take_X4 tyX4 tyX4_ok nmX4 0 rfl rfl 11 rfl rfl kX4_take_15 rfl rfl rfl dX4_take_112 rfl (fun H locs Wd => ?_)
    refine lv_aload_n S.1 S.2.1 dX4_take_115 rfl (lv_at hl 0 rfl) ?_
    refine lv_aload_n S.1 S.2.1 dX4_take_116 rfl (lv_at hl 0 rfl) ?_
    refine g_get (a := a_t) S hK Wd iX4_take_X4 0 rfl rfl 12 rfl rfl kX4_take_19 rfl dX4_take_117 ?_
    refine lv_iload S.1 S.2.1 dX4_take_120 (lv_at hl 5 rfl) ?_
    refine va_mmax S.1 S.2.1 (S.2.2.1.trans hl.1.symm) S.2.2.2.1 (S.2.2.2.2 _ kX4_take_11) (S.2.2.2.2 _ kX4_take_12) (S.2.2.2.2 _ kX4_take_13) (S.2.2.2.2 _ kX4_take_14) (Nat.le_of_ble_eq_true rfl) (Nat.le_of_ble_eq_true rfl) (Nat.zero_le _) (Nat.zero_le _) dX4_take_122 ?_
    refine g_put (a := a_t) (ws' := (wX4_take cI cB cZ cM cJ cK  a_t a_t_best a_t_longest a_p1 a_p1_told a_p1_leading a_p1_ended a_p1_march a_p2 t_fresh t_size u2.1 u2.2.1 u2.2.2.1 u3.1 (t_walked ||| u4) (t_ends ||| ((1 : Int32) <<< (p1_march_at &&& 31))) (if t_happy < p1_homes then p1_homes else t_happy) (if x5 < t_leastBread then x5 else t_leastBread) (if t_mostBread < x5 then x5 else t_mostBread) t_hides u2.2.2.2 u3.2 p1_size p1_homes p1_told p1_leading p1_ended p1_march_at p1_march_hour p1_march_fines p1_march_led p1_march_taken p1_march_shut p2_at p2_hour p2_fines p2_led p2_taken p2_shut)) S hK Wd iX4_take_X4 tyX4 tyX4_ok nmX4 0 rfl rfl 12 rfl rfl kX4_take_19 rfl rfl rfl dX4_take_125 rfl (fun H locs Wd => ?_)
    refine lv_iload_n S.1 S.2.1 dX4_take_128 rfl (lv_at hl 3 rfl) ?_
    refine lv_if_eq (tgt := 161) S.1 S.2.1 dX4_take_129 rfl (fun c5 => ?_) (fun c5 => ?_)
    · have hf := g_if hf c5
      exact g_vret S Wd hr hlk dX4_take_161 (t_size, u2.1, u2.2.1, u2.2.2.1, u3.1, (t_walked ||| u4), (t_ends ||| ((1 : Int32) <<< (p1_march_at &&& 31))), (if t_happy < p1_homes then p1_homes else t_happy), (if x5 < t_leastBread then x5 else t_leastBread), (if t_mostBread < x5 then x5 else t_mostBread), t_hides, u2.2.2.2, u3.2) hf rfl rfl
    · have hf := g_ifn hf c5
      refine lv_aload_n S.1 S.2.1 dX4_take_132 rfl (lv_at hl 0 rfl) ?_
      refine g_get (a := a_t) S hK Wd iX4_take_X4 0 rfl rfl 1 rfl rfl kX4_take_3 rfl dX4_take_133 ?_
      refine lv_if_le (tgt := 161) S.1 S.2.1 dX4_take_136 rfl (fun c6 => ?_) (fun c6 => ?_)
      · have hf := g_if hf c6
        exact g_vret S Wd hr hlk dX4_take_161 (t_size, u2.1, u2.2.1, u2.2.2.1, u3.1, (t_walked ||| u4), (t_ends ||| ((1 : Int32) <<< (p1_march_at &&& 31))), (if t_happy < p1_homes then p1_homes else t_happy), (if x5 < t_leastBread then x5 else t_leastBread), (if t_mostBread < x5 then x5 else t_mostBread), t_hides, u2.2.2.2, u3.2) hf rfl rfl
      · have hf := g_ifn hf c6
        refine lv_aload_n S.1 S.2.1 dX4_take_139 rfl (lv_at hl 0 rfl) ?_
        refine lv_dup S.1 S.2.1 dX4_take_140 rfl ?_
        refine g_get (a := a_t) S hK Wd iX4_take_X4 0 rfl rfl 13 rfl rfl kX4_take_20 rfl dX4_take_141 ?_
        refine lv_iconst (v := 1) S.1 S.2.1 dX4_take_144 (by decide) ?_
        refine lv_aload_n S.1 S.2.1 dX4_take_145 rfl (lv_at hl 1 rfl) ?_
        refine g_get (a := a_p1) S hK Wd iX4_take_X6 3 rfl rfl 1 rfl rfl kX4_take_21 rfl dX4_take_146 ?_
        refine lv_aload_n S.1 S.2.1 dX4_take_149 rfl (lv_at hl 0 rfl) ?_
        refine g_get (a := a_t) S hK Wd iX4_take_X4 0 rfl rfl 1 rfl rfl kX4_take_3 rfl dX4_take_150 ?_
        refine lv_iconst (v := 1) S.1 S.2.1 dX4_take_153 (by decide) ?_
        refine lv_isub S.1 S.2.1 dX4_take_154 ?_
        obtain ⟨h7, hf⟩ := g_gi hF hf
        refine g_iald (a := a_p1_leading) S hK Wd 5 0 rfl rfl h7 dX4_take_155 ?_
        refine lv_ishl S.1 S.2.1 dX4_take_156 ?_
        refine lv_ior S.1 S.2.1 dX4_take_157 ?_
        refine g_put (a := a_t) (ws' := (wX4_take cI cB cZ cM cJ cK  a_t a_t_best a_t_longest a_p1 a_p1_told a_p1_leading a_p1_ended a_p1_march a_p2 t_fresh t_size u2.1 u2.2.1 u2.2.2.1 u3.1 (t_walked ||| u4) (t_ends ||| ((1 : Int32) <<< (p1_march_at &&& 31))) (if t_happy < p1_homes then p1_homes else t_happy) (if x5 < t_leastBread then x5 else t_leastBread) (if t_mostBread < x5 then x5 else t_mostBread) (t_hides ||| ((1 : Int32) <<< ((p1_leading (t_size - (1 : Int32)).toNatClampNeg) &&& 31))) u2.2.2.2 u3.2 p1_size p1_homes p1_told p1_leading p1_ended p1_march_at p1_march_hour p1_march_fines p1_march_led p1_march_taken p1_march_shut p2_at p2_hour p2_fines p2_led p2_taken p2_shut)) S hK Wd iX4_take_X4 tyX4 tyX4_ok nmX4 0 rfl rfl 13 rfl rfl kX4_take_20 rfl rfl rfl dX4_take_158 rfl (fun H locs Wd => ?_)
        exact g_vret S Wd hr hlk dX4_take_161 (t_size, u2.1, u2.2.1, u2.2.2.1, u3.1, (t_walked ||| u4), (t_ends ||| ((1 : Int32) <<< (p1_march_at &&& 31))), (if t_happy < p1_homes then p1_homes else t_happy), (if x5 < t_leastBread then x5 else t_leastBread), (if t_mostBread < x5 then x5 else t_mostBread), (t_hides ||| ((1 : Int32) <<< ((p1_leading (t_size - (1 : Int32)).toNatClampNeg) &&& 31))), u2.2.2.2, u3.2) hf rfl rfl
  refine lv_aload_n S.1 S.2.1 dX4_take_0 rfl (lv_at hl 1 rfl) ?_
  refine g_get (a := a_p1) S hK Wd iX4_take_X6 3 rfl rfl 3 rfl rfl kX4_take_1 rfl dX4_take_1 ?_
  refine lv_astore (lv' := [(4, .ref a_p1_march), (0, .ref a_t), (1, .ref a_p1), (2, .ref a_p2), (3, .int x3)]) S.1 S.2.1 dX4_take_4 hl (by decide) rfl (fun ls hl => ?_)
  refine lv_aload_n S.1 S.2.1 dX4_take_6 rfl (lv_at hl 1 rfl) ?_
  refine lv_aload_n S.1 S.2.1 dX4_take_7 rfl (lv_at hl 2 rfl) ?_
  refine g_get (a := a_p1) S hK Wd iX4_take_X6 3 rfl rfl 4 rfl rfl kX4_take_2 rfl dX4_take_8 ?_
  refine g_put (a := a_t) (ws' := (wX4_take cI cB cZ cM cJ cK  a_t a_t_best a_t_longest a_p1 a_p1_told a_p1_leading a_p1_ended a_p1_march a_p2 t_fresh p1_size t_door t_fines t_hours t_longestWalked t_walked t_ends t_happy t_leastBread t_mostBread t_hides t_best t_longest p1_size p1_homes p1_told p1_leading p1_ended p1_march_at p1_march_hour p1_march_fines p1_march_led p1_march_taken p1_march_shut p2_at p2_hour p2_fines p2_led p2_taken p2_shut)) S hK Wd iX4_take_X4 tyX4 tyX4_ok nmX4 0 rfl rfl 1 rfl rfl kX4_take_3 rfl rfl rfl dX4_take_11 rfl (fun H locs Wd => ?_)
  refine lv_aload S.1 S.2.1 dX4_take_14 (lv_at hl 0 rfl) ?_
  refine g_get (a := a_p1_march) S hK Wd iX4_take_X3 7 rfl rfl 1 rfl rfl kX4_take_4 rfl dX4_take_16 ?_
  refine lv_aload_n S.1 S.2.1 dX4_take_19 rfl (lv_at hl 3 rfl) ?_
  refine g_get (a := a_p2) S hK Wd iX4_take_X3 8 rfl rfl 1 rfl rfl kX4_take_4 rfl dX4_take_20 ?_
  refine lv_isub S.1 S.2.1 dX4_take_23 ?_
  refine lv_istore (lv' := [(5, .int (p1_march_hour - p2_hour)), (4, .ref a_p1_march), (0, .ref a_t), (1, .ref a_p1), (2, .ref a_p2), (3, .int x3)]) S.1 S.2.1 dX4_take_24 hl (by decide) rfl (fun ls hl => ?_)
  refine lv_aload_n S.1 S.2.1 dX4_take_26 rfl (lv_at hl 2 rfl) ?_
  refine lv_aload_n S.1 S.2.1 dX4_take_27 rfl (lv_at hl 3 rfl) ?_
  refine lv_iload_n S.1 S.2.1 dX4_take_28 rfl (lv_at hl 5 rfl) ?_
  refine lv_if_eq (tgt := 36) S.1 S.2.1 dX4_take_29 rfl (fun c1 => ?_) (fun c1 => ?_)
  · have hf := g_if hf c1
    refine lv_iconst (v := 0) S.1 S.2.1 dX4_take_36 (by decide) ?_
    exact b37  p1_size t_door t_fines t_hours t_longestWalked t_walked t_ends t_happy t_leastBread t_mostBread t_hides t_best t_longest (p1_march_hour - p2_hour) (0 : Int32) _ _ _ Wd (lv_sub hl [2, 3, 4, 5, 1, 0] rfl) hf
  · have hf := g_ifn hf c1
    refine lv_iconst (v := 1) S.1 S.2.1 dX4_take_32 (by decide) ?_
    refine lv_goto (tgt := 37) S.1 S.2.1 dX4_take_33 rfl ?_
    exact b37  p1_size t_door t_fines t_hours t_longestWalked t_walked t_ends t_happy t_leastBread t_mostBread t_hides t_best t_longest (p1_march_hour - p2_hour) (1 : Int32) _ _ _ Wd (lv_sub hl [2, 3, 4, 5, 1, 0] rfl) hf
def wX5_add (cI cB cZ cM cJ cK : ClassId) (a_t a_t_told a_t_able a_t_march : Nat) (t_size t_going : Int32) (t_told : Nat → Int32) : List va_W := [[(a_t, .inr (5, [.ref a_t_told, .ref a_t_able, .ref a_t_march, .int t_size, .int t_going]))], [(a_t_told, .inl (cI, 6, .inl t_told))]]
def rmX5_add : Room := { frames := 0, cells := 0, slots := 0, locals := 0 }
theorem kX5_add_1 : Cond.fieldLink RX5 25 "FeastMarch$Plan" "size" "I" ∈ wsX5_add := List.mem_of_getElem? (i := 1) rfl
theorem kX5_add_2 : Cond.fieldLink RX5 9 "FeastMarch$Plan" "told" "[I" ∈ wsX5_add := List.mem_of_getElem? (i := 2) rfl
theorem iX5_add_X5 : ∀ w ∈ wsX50, w ∈ wsX5_add := fun _ h => List.mem_cons_of_mem _ (List.mem_append_right _ h)
theorem n_X5_add : yX5_add.cls = RX5 ∧ yX5_add.cls ≠ "java/lang/invoke/MethodHandle" ∧ yX5_add.cls ≠ "java/lang/invoke/VarHandle" ∧ (parseMethodDescriptor yX5_add.desc).map (fun d => d.parameters.length) = some 1 := by decide +kernel
set_option maxHeartbeats 4000000 in
set_option maxRecDepth 100000 in
theorem c_X5_add (l : Launch) (D : va_G) (N : Nat) (cI cB cZ cM cJ cK : ClassId) (a_t a_t_told a_t_able a_t_march : Nat) (t_size t_going : Int32) (t_told : Nat → Int32) (x1 : Int32) : gM l yX5_add wsX5_add rmX5_add D (gT cI cB cZ cM cJ cK) (wX5_add cI cB cZ cM cJ cK  a_t a_t_told a_t_able a_t_march t_size t_going t_told) [.ref a_t, .int x1] (fX5_add N t_size t_told x1) (fun _u : Int32 × Int32 × (Nat → Int32) => some (.int _u.1)) (fun _u : Int32 × Int32 × (Nat → Int32) => (wX5_add cI cB cZ cM cJ cK  a_t a_t_told a_t_able a_t_march _u.2.1 t_going _u.2.2)) := by
  refine g_start (cc := cX5_add) (maxL := 2) (ret := (some .boolean)) (by decide) rfl (Nat.le_of_ble_eq_true rfl) ?_
  intro F hf hF p e s m below meth c A ls S hK hA Wd hr hlk hnm hl
  refine lv_aload_n S.1 S.2.1 dX5_add_0 rfl (lv_at hl 0 rfl) ?_
  refine g_get (a := a_t) S hK Wd iX5_add_X5 0 rfl rfl 3 rfl rfl kX5_add_1 rfl dX5_add_1 ?_
  refine lv_bipush (v := 6) S.1 S.2.1 dX5_add_4 (by decide) ?_
  refine lv_icmp_lt (tgt := 11) S.1 S.2.1 dX5_add_6 rfl (fun c1 => ?_) (fun c1 => ?_)
  · have hf := g_if hf c1
    refine lv_aload_n S.1 S.2.1 dX5_add_11 rfl (lv_at hl 0 rfl) ?_
    refine g_get (a := a_t) S hK Wd iX5_add_X5 0 rfl rfl 0 rfl rfl kX5_add_2 rfl dX5_add_12 ?_
    refine lv_aload_n S.1 S.2.1 dX5_add_15 rfl (lv_at hl 0 rfl) ?_
    refine g_get (a := a_t) S hK Wd iX5_add_X5 0 rfl rfl 3 rfl rfl kX5_add_1 rfl dX5_add_16 ?_
    refine lv_iload_n S.1 S.2.1 dX5_add_19 rfl (lv_at hl 1 rfl) ?_
    obtain ⟨h2, hf⟩ := g_gi hF hf
    refine g_iast (a := a_t_told) (ws' := (wX5_add cI cB cZ cM cJ cK  a_t a_t_told a_t_able a_t_march t_size t_going (upd t_told t_size.toNatClampNeg x1))) S hK Wd 1 0 rfl rfl h2 dX5_add_20 rfl (fun H locs Wd => ?_)
    refine lv_aload_n S.1 S.2.1 dX5_add_21 rfl (lv_at hl 0 rfl) ?_
    refine lv_dup S.1 S.2.1 dX5_add_22 rfl ?_
    refine g_get (a := a_t) S hK Wd iX5_add_X5 0 rfl rfl 3 rfl rfl kX5_add_1 rfl dX5_add_23 ?_
    refine lv_iconst (v := 1) S.1 S.2.1 dX5_add_26 (by decide) ?_
    refine lv_iadd S.1 S.2.1 dX5_add_27 ?_
    refine g_put (a := a_t) (ws' := (wX5_add cI cB cZ cM cJ cK  a_t a_t_told a_t_able a_t_march (t_size + (1 : Int32)) t_going (upd t_told t_size.toNatClampNeg x1))) S hK Wd iX5_add_X5 tyX5 tyX5_ok nmX5 0 rfl rfl 3 rfl rfl kX5_add_1 rfl rfl rfl dX5_add_28 rfl (fun H locs Wd => ?_)
    refine lv_iconst (v := 1) S.1 S.2.1 dX5_add_31 (by decide) ?_
    exact g_zret S Wd hr hlk rfl dX5_add_32 ((1 : Int32), (t_size + (1 : Int32)), (upd t_told t_size.toNatClampNeg x1)) hf rfl rfl
  · have hf := g_ifn hf c1
    refine lv_iconst (v := 0) S.1 S.2.1 dX5_add_9 (by decide) ?_
    exact g_zret S Wd hr hlk rfl dX5_add_10 ((0 : Int32), t_size, t_told) hf rfl rfl
def wX5_choose (cI cB cZ cM cJ cK : ClassId) (a_t a_t_told a_t_able a_t_march a_p1 : Nat) (t_size t_going : Int32) (t_told t_able : Nat → Int32) (p1_at p1_hour p1_fines p1_led p1_taken p1_shut : Int32) : List va_W := [[(a_t, .inr (5, [.ref a_t_told, .ref a_t_able, .ref a_t_march, .int t_size, .int t_going]))], [(a_t_told, .inl (cI, 6, .inl t_told))], [(a_t_able, .inl (cI, 6, .inl t_able))], [(a_p1, .inr (3, [.int p1_at, .int p1_hour, .int p1_fines, .int p1_led, .int p1_taken, .int p1_shut]))]]
def rmX5_choose : Room := { frames := 0, cells := 0, slots := 0, locals := 0 }
theorem kX5_choose_1 : Cond.fieldLink RX5 29 "FeastMarch$March" "led" "I" ∈ wsX5_choose := List.mem_of_getElem? (i := 1) rfl
theorem kX5_choose_2 : Cond.fieldLink RX5 32 "FeastMarch$Plan" "going" "I" ∈ wsX5_choose := List.mem_of_getElem? (i := 2) rfl
theorem kX5_choose_3 : Cond.fieldLink RX5 25 "FeastMarch$Plan" "size" "I" ∈ wsX5_choose := List.mem_of_getElem? (i := 3) rfl
theorem kX5_choose_4 : Cond.fieldLink RX5 9 "FeastMarch$Plan" "told" "[I" ∈ wsX5_choose := List.mem_of_getElem? (i := 4) rfl
theorem kX5_choose_5 : Cond.fieldLink RX5 15 "FeastMarch$Plan" "able" "[I" ∈ wsX5_choose := List.mem_of_getElem? (i := 5) rfl
theorem iX5_choose_X3 : ∀ w ∈ wsX30, w ∈ wsX5_choose := fun _ h => List.mem_cons_of_mem _ (List.mem_append_left _ (List.mem_append_right _ h))
theorem iX5_choose_X5 : ∀ w ∈ wsX50, w ∈ wsX5_choose := fun _ h => List.mem_cons_of_mem _ (List.mem_append_right _ h)
theorem n_X5_choose : yX5_choose.cls = RX5 ∧ yX5_choose.cls ≠ "java/lang/invoke/MethodHandle" ∧ yX5_choose.cls ≠ "java/lang/invoke/VarHandle" ∧ (parseMethodDescriptor yX5_choose.desc).map (fun d => d.parameters.length) = some 1 := by decide +kernel
set_option maxHeartbeats 4000000 in
set_option maxRecDepth 100000 in
theorem c_X5_choose (l : Launch) (D : va_G) (N : Nat) (cI cB cZ cM cJ cK : ClassId) (a_t a_t_told a_t_able a_t_march a_p1 : Nat) (t_size t_going : Int32) (t_told t_able : Nat → Int32) (p1_at p1_hour p1_fines p1_led p1_taken p1_shut : Int32) : gM l yX5_choose wsX5_choose rmX5_choose D (gT cI cB cZ cM cJ cK) (wX5_choose cI cB cZ cM cJ cK  a_t a_t_told a_t_able a_t_march a_p1 t_size t_going t_told t_able p1_at p1_hour p1_fines p1_led p1_taken p1_shut) [.ref a_t, .ref a_p1] (fX5_choose N t_size t_going t_told t_able p1_led) (fun _u : Int32 × (Nat → Int32) => none) (fun _u : Int32 × (Nat → Int32) => (wX5_choose cI cB cZ cM cJ cK  a_t a_t_told a_t_able a_t_march a_p1 t_size _u.1 t_told _u.2 p1_at p1_hour p1_fines p1_led p1_taken p1_shut)) := by
  refine g_start (cc := cX5_choose) (maxL := 4) (ret := none) (by decide) rfl (Nat.le_of_ble_eq_true rfl) ?_
  intro F hf hF p e s m below meth c A ls S hK hA Wd hr hlk hnm hl
  have b69 : ∀ (K12 : Int32 → (Nat → Int32) → Int32 → Int32 → Option (Int32 × (Nat → Int32))) (hK12 : ∀ (t_going : Int32) (t_able : Nat → Int32) (x2 x3 : Int32) (H1 : Heap) (locs1 : List Loc) (ls1 : Array Slot), gw D A s.heap (wX5_choose cI cB cZ cM cJ cK  a_t a_t_told a_t_able a_t_march a_p1 t_size t_going t_told t_able p1_at p1_hour p1_fines p1_led p1_taken p1_shut) H1 locs1 → lv_has ls1 4 [(0, .ref a_t), (2, .int x2), (3, .int x3)] → F = K12 t_going t_able x2 x3 → W p l e rmX5_choose s m [.ref a_t, .ref a_p1].toArray below meth c H1 locs1 0 0 (MQ below (gQ F (fun _u : Int32 × (Nat → Int32) => none) (fun _u : Int32 × (Nat → Int32) => (wX5_choose cI cB cZ cM cJ cK  a_t a_t_told a_t_able a_t_march a_p1 t_size _u.1 t_told _u.2 p1_at p1_hour p1_fines p1_led p1_taken p1_shut)) D A) [.ref a_t, .ref a_p1].toArray s 0 0 A) (F0 m 12 ls1 [])) , ∀ (t_going : Int32) (t_able : Nat → Int32) (x2 x3 : Int32) (H1 : Heap) (locs1 : List Loc) (ls1 : Array Slot), gw D A s.heap (wX5_choose cI cB cZ cM cJ cK  a_t a_t_told a_t_able a_t_march a_p1 t_size t_going t_told t_able p1_at p1_hour p1_fines p1_led p1_taken p1_shut) H1 locs1 → lv_has ls1 4 [(0, .ref a_t), (2, .int x2), (3, .int x3)] → F = fX5_choose_b69 N t_size t_told p1_led K12 t_going t_able x2 x3 → W p l e rmX5_choose s m [.ref a_t, .ref a_p1].toArray below meth c H1 locs1 0 0 (MQ below (gQ F (fun _u : Int32 × (Nat → Int32) => none) (fun _u : Int32 × (Nat → Int32) => (wX5_choose cI cB cZ cM cJ cK  a_t a_t_told a_t_able a_t_march a_p1 t_size _u.1 t_told _u.2 p1_at p1_hour p1_fines p1_led p1_taken p1_shut)) D A) [.ref a_t, .ref a_p1].toArray s 0 0 A) (F0 m 69 ls1 []) := by
    intro K12 hK12 t_going t_able x2 x3 H locs ls Wd hl hf
    refine lv_iinc (v := (x3 + (1 : Int32))) (lv' := [(3, .int (x3 + (1 : Int32))), (0, .ref a_t), (2, .int x2)]) S.1 S.2.1 dX5_choose_69 hl (k := 2) rfl rfl (by decide) rfl (fun ls hl => ?_)
    refine lv_goto (tgt := 12) S.1 S.2.1 dX5_choose_72 rfl ?_
    exact hK12 t_going t_able x2 (x3 + (1 : Int32)) _ _ _ Wd (lv_sub hl [1, 2, 0] rfl) hf
  have b12 : ∀ (n : Nat), ∀ (t_going : Int32) (t_able : Nat → Int32) (x2 x3 : Int32) (H1 : Heap) (locs1 : List Loc) (ls1 : Array Slot), gw D A s.heap (wX5_choose cI cB cZ cM cJ cK  a_t a_t_told a_t_able a_t_march a_p1 t_size t_going t_told t_able p1_at p1_hour p1_fines p1_led p1_taken p1_shut) H1 locs1 → lv_has ls1 4 [(0, .ref a_t), (2, .int x2), (3, .int x3)] → F = fX5_choose_b12 N t_size t_told p1_led  n t_going t_able x2 x3 → W p l e rmX5_choose s m [.ref a_t, .ref a_p1].toArray below meth c H1 locs1 0 0 (MQ below (gQ F (fun _u : Int32 × (Nat → Int32) => none) (fun _u : Int32 × (Nat → Int32) => (wX5_choose cI cB cZ cM cJ cK  a_t a_t_told a_t_able a_t_march a_p1 t_size _u.1 t_told _u.2 p1_at p1_hour p1_fines p1_led p1_taken p1_shut)) D A) [.ref a_t, .ref a_p1].toArray s 0 0 A) (F0 m 12 ls1 []) := by
    intro  n
    induction n with
    | zero => intro t_going t_able x2 x3 H locs ls Wd hl hf; exact absurd hf hF
    | succ n ih =>
      intro t_going t_able x2 x3 H locs ls Wd hl hf
      refine lv_iload_n S.1 S.2.1 dX5_choose_12 rfl (lv_at hl 2 rfl) ?_
      refine lv_aload_n S.1 S.2.1 dX5_choose_13 rfl (lv_at hl 0 rfl) ?_
      refine g_get (a := a_t) S hK Wd iX5_choose_X5 0 rfl rfl 3 rfl rfl kX5_choose_3 rfl dX5_choose_14 ?_
      refine lv_icmp_ge (tgt := 75) S.1 S.2.1 dX5_choose_17 rfl (fun c1 => ?_) (fun c1 => ?_)
      · have hf := g_if hf c1
        exact g_vret S Wd hr hlk dX5_choose_75 (t_going, t_able) hf rfl rfl
      · have hf := g_ifn hf c1
        refine lv_iload_n S.1 S.2.1 dX5_choose_20 rfl (lv_at hl 1 rfl) ?_
        refine lv_aload_n S.1 S.2.1 dX5_choose_21 rfl (lv_at hl 0 rfl) ?_
        refine g_get (a := a_t) S hK Wd iX5_choose_X5 0 rfl rfl 0 rfl rfl kX5_choose_4 rfl dX5_choose_22 ?_
        refine lv_iload_n S.1 S.2.1 dX5_choose_25 rfl (lv_at hl 2 rfl) ?_
        obtain ⟨h2, hf⟩ := g_gi hF hf
        refine g_iald (a := a_t_told) S hK Wd 1 0 rfl rfl h2 dX5_choose_26 ?_
        refine lv_ishr S.1 S.2.1 dX5_choose_27 ?_
        refine lv_iconst (v := 1) S.1 S.2.1 dX5_choose_28 (by decide) ?_
        refine lv_iand S.1 S.2.1 dX5_choose_29 ?_
        refine lv_if_ne (tgt := 69) S.1 S.2.1 dX5_choose_30 rfl (fun c3 => ?_) (fun c3 => ?_)
        · have hf := g_ifn hf c3
          exact b69 (fun t_going t_able x2 x3 => fX5_choose_b12 N t_size t_told p1_led n t_going t_able x2 x3) ih t_going t_able x2 x3 _ _ _ Wd hl hf
        · have hf := g_if hf c3
          refine lv_iload_n S.1 S.2.1 dX5_choose_33 rfl (lv_at hl 1 rfl) ?_
          refine lv_iconst (v := 1) S.1 S.2.1 dX5_choose_34 (by decide) ?_
          refine lv_aload_n S.1 S.2.1 dX5_choose_35 rfl (lv_at hl 0 rfl) ?_
          refine g_get (a := a_t) S hK Wd iX5_choose_X5 0 rfl rfl 0 rfl rfl kX5_choose_4 rfl dX5_choose_36 ?_
          refine lv_iload_n S.1 S.2.1 dX5_choose_39 rfl (lv_at hl 2 rfl) ?_
          obtain ⟨h4, hf⟩ := g_gi hF hf
          refine g_iald (a := a_t_told) S hK Wd 1 0 rfl rfl h4 dX5_choose_40 ?_
          refine lv_ishl S.1 S.2.1 dX5_choose_41 ?_
          refine lv_ior S.1 S.2.1 dX5_choose_42 ?_
          refine lv_istore_n (lv' := [(2, .int (x2 ||| ((1 : Int32) <<< ((t_told x3.toNatClampNeg) &&& 31)))), (0, .ref a_t), (3, .int x3)]) S.1 S.2.1 dX5_choose_43 rfl hl (by decide) rfl (fun ls hl => ?_)
          refine lv_aload_n S.1 S.2.1 dX5_choose_44 rfl (lv_at hl 1 rfl) ?_
          refine g_get (a := a_t) S hK Wd iX5_choose_X5 0 rfl rfl 1 rfl rfl kX5_choose_5 rfl dX5_choose_45 ?_
          refine lv_aload_n S.1 S.2.1 dX5_choose_48 rfl (lv_at hl 1 rfl) ?_
          refine g_get (a := a_t) S hK Wd iX5_choose_X5 0 rfl rfl 4 rfl rfl kX5_choose_2 rfl dX5_choose_49 ?_
          refine lv_aload_n S.1 S.2.1 dX5_choose_52 rfl (lv_at hl 1 rfl) ?_
          refine g_get (a := a_t) S hK Wd iX5_choose_X5 0 rfl rfl 0 rfl rfl kX5_choose_4 rfl dX5_choose_53 ?_
          refine lv_iload_n S.1 S.2.1 dX5_choose_56 rfl (lv_at hl 2 rfl) ?_
          obtain ⟨h5, hf⟩ := g_gi hF hf
          refine g_iald (a := a_t_told) S hK Wd 1 0 rfl rfl h5 dX5_choose_57 ?_
          obtain ⟨h6, hf⟩ := g_gi hF hf
          refine g_iast (a := a_t_able) (ws' := (wX5_choose cI cB cZ cM cJ cK  a_t a_t_told a_t_able a_t_march a_p1 t_size t_going t_told (upd t_able t_going.toNatClampNeg (t_told x3.toNatClampNeg)) p1_at p1_hour p1_fines p1_led p1_taken p1_shut)) S hK Wd 2 0 rfl rfl h6 dX5_choose_58 rfl (fun H locs Wd => ?_)
          refine lv_aload_n S.1 S.2.1 dX5_choose_59 rfl (lv_at hl 1 rfl) ?_
          refine lv_dup S.1 S.2.1 dX5_choose_60 rfl ?_
          refine g_get (a := a_t) S hK Wd iX5_choose_X5 0 rfl rfl 4 rfl rfl kX5_choose_2 rfl dX5_choose_61 ?_
          refine lv_iconst (v := 1) S.1 S.2.1 dX5_choose_64 (by decide) ?_
          refine lv_iadd S.1 S.2.1 dX5_choose_65 ?_
          refine g_put (a := a_t) (ws' := (wX5_choose cI cB cZ cM cJ cK  a_t a_t_told a_t_able a_t_march a_p1 t_size (t_going + (1 : Int32)) t_told (upd t_able t_going.toNatClampNeg (t_told x3.toNatClampNeg)) p1_at p1_hour p1_fines p1_led p1_taken p1_shut)) S hK Wd iX5_choose_X5 tyX5 tyX5_ok nmX5 0 rfl rfl 4 rfl rfl kX5_choose_2 rfl rfl rfl dX5_choose_66 rfl (fun H locs Wd => ?_)
          exact b69 (fun t_going t_able x2 x3 => fX5_choose_b12 N t_size t_told p1_led n t_going t_able x2 x3) ih (t_going + (1 : Int32)) (upd t_able t_going.toNatClampNeg (t_told x3.toNatClampNeg)) (x2 ||| ((1 : Int32) <<< ((t_told x3.toNatClampNeg) &&& 31))) x3 _ _ _ Wd (lv_sub hl [1, 0, 2] rfl) hf
  refine lv_aload_n S.1 S.2.1 dX5_choose_0 rfl (lv_at hl 1 rfl) ?_
  refine g_get (a := a_p1) S hK Wd iX5_choose_X3 3 rfl rfl 3 rfl rfl kX5_choose_1 rfl dX5_choose_1 ?_
  refine lv_istore_n (lv' := [(2, .int p1_led), (0, .ref a_t), (1, .ref a_p1)]) S.1 S.2.1 dX5_choose_4 rfl hl (by decide) rfl (fun ls hl => ?_)
  refine lv_aload_n S.1 S.2.1 dX5_choose_5 rfl (lv_at hl 1 rfl) ?_
  refine lv_iconst (v := 0) S.1 S.2.1 dX5_choose_6 (by decide) ?_
  refine g_put (a := a_t) (ws' := (wX5_choose cI cB cZ cM cJ cK  a_t a_t_told a_t_able a_t_march a_p1 t_size (0 : Int32) t_told t_able p1_at p1_hour p1_fines p1_led p1_taken p1_shut)) S hK Wd iX5_choose_X5 tyX5 tyX5_ok nmX5 0 rfl rfl 4 rfl rfl kX5_choose_2 rfl rfl rfl dX5_choose_7 rfl (fun H locs Wd => ?_)
  refine lv_iconst (v := 0) S.1 S.2.1 dX5_choose_10 (by decide) ?_
  refine lv_istore_n (lv' := [(3, .int (0 : Int32)), (2, .int p1_led), (0, .ref a_t), (1, .ref a_p1)]) S.1 S.2.1 dX5_choose_11 rfl hl (by decide) rfl (fun ls hl => ?_)
  exact b12  N (0 : Int32) t_able p1_led (0 : Int32) _ _ _ Wd (lv_sub hl [2, 1, 0] rfl) hf
def wX5_everybody (cI cB cZ cM cJ cK : ClassId) (a_t a_t_told a_t_able a_t_march : Nat) (t_size t_going : Int32) : List va_W := [[(a_t, .inr (5, [.ref a_t_told, .ref a_t_able, .ref a_t_march, .int t_size, .int t_going]))]]
def rmX5_everybody : Room := { frames := 0, cells := 0, slots := 0, locals := 0 }
theorem kX5_everybody_1 : Cond.fieldLink RX5 32 "FeastMarch$Plan" "going" "I" ∈ wsX5_everybody := List.mem_of_getElem? (i := 1) rfl
theorem iX5_everybody_X5 : ∀ w ∈ wsX50, w ∈ wsX5_everybody := fun _ h => List.mem_cons_of_mem _ (List.mem_append_right _ h)
theorem n_X5_everybody : yX5_everybody.cls = RX5 ∧ yX5_everybody.cls ≠ "java/lang/invoke/MethodHandle" ∧ yX5_everybody.cls ≠ "java/lang/invoke/VarHandle" ∧ (parseMethodDescriptor yX5_everybody.desc).map (fun d => d.parameters.length) = some 0 := by decide +kernel
set_option maxHeartbeats 4000000 in
set_option maxRecDepth 100000 in
theorem c_X5_everybody (l : Launch) (D : va_G) (N : Nat) (cI cB cZ cM cJ cK : ClassId) (a_t a_t_told a_t_able a_t_march : Nat) (t_size t_going : Int32) : gM l yX5_everybody wsX5_everybody rmX5_everybody D (gT cI cB cZ cM cJ cK) (wX5_everybody cI cB cZ cM cJ cK  a_t a_t_told a_t_able a_t_march t_size t_going) [.ref a_t] (fX5_everybody N t_going) (fun _u : Int32 => some (.int _u)) (fun _u : Int32 => (wX5_everybody cI cB cZ cM cJ cK  a_t a_t_told a_t_able a_t_march t_size t_going)) := by
  refine g_start (cc := cX5_everybody) (maxL := 1) (ret := (some .int)) (by decide) rfl (Nat.le_of_ble_eq_true rfl) ?_
  intro F hf hF p e s m below meth c A ls S hK hA Wd hr hlk hnm hl
  refine lv_iconst (v := 1) S.1 S.2.1 dX5_everybody_0 (by decide) ?_
  refine lv_aload_n S.1 S.2.1 dX5_everybody_1 rfl (lv_at hl 0 rfl) ?_
  refine g_get (a := a_t) S hK Wd iX5_everybody_X5 0 rfl rfl 4 rfl rfl kX5_everybody_1 rfl dX5_everybody_2 ?_
  refine lv_ishl S.1 S.2.1 dX5_everybody_5 ?_
  refine lv_iconst (v := 1) S.1 S.2.1 dX5_everybody_6 (by decide) ?_
  refine lv_isub S.1 S.2.1 dX5_everybody_7 ?_
  exact g_iret S Wd hr hlk dX5_everybody_8 (((1 : Int32) <<< (t_going &&& 31)) - (1 : Int32)) hf rfl rfl
def wX5_walk (cI cB cZ cM cJ cK : ClassId) (a_t a_t_told a_t_able a_t_march a_p1 a_p1_first a_p1_second a_p1_hours a_p1_home a_p1_feet a_p1_far : Nat) (r_p1_far : Nat → Nat) (a_p2 : Nat) (t_size t_going : Int32) (t_able : Nat → Int32) (t_march_at t_march_hour t_march_fines t_march_led t_march_taken t_march_shut p1_corners p1_streets p1_leaders : Int32) (p1_first p1_second p1_hours p1_home p1_feet : Nat → Int32) (p1_far : Nat → Nat → Int32) (p2_at p2_hour p2_fines p2_led p2_taken p2_shut : Int32) : List va_W := [[(a_t, .inr (5, [.ref a_t_told, .ref a_t_able, .ref a_t_march, .int t_size, .int t_going]))], [(a_t_able, .inl (cI, 6, .inl t_able))], [(a_t_march, .inr (3, [.int t_march_at, .int t_march_hour, .int t_march_fines, .int t_march_led, .int t_march_taken, .int t_march_shut]))], [(a_p1, .inr (0, [.int p1_corners, .int p1_streets, .int p1_leaders, .ref a_p1_first, .ref a_p1_second, .ref a_p1_hours, .ref a_p1_home, .ref a_p1_feet, .ref a_p1_far]))], [(a_p1_first, .inl (cI, 12, .inl p1_first))], [(a_p1_second, .inl (cI, 12, .inl p1_second))], [(a_p1_hours, .inl (cI, 12, .inl p1_hours))], [(a_p1_home, .inl (cI, 6, .inl p1_home))], [(a_p1_feet, .inl (cI, 6, .inl p1_feet))], [(a_p1_far, .inl (cK, 8, .inr (.inr (.inr (.inr (famR 8 r_p1_far))))))], faC cI r_p1_far p1_far, [(a_p2, .inr (3, [.int p2_at, .int p2_hour, .int p2_fines, .int p2_led, .int p2_taken, .int p2_shut]))]]
def rmX5_walk : Room := { frames := 3, cells := 0, slots := 0, locals := 78 }
theorem kX5_walk_1 : Cond.fieldLink RX5 21 "FeastMarch$Plan" "march" "LFeastMarch$March;" ∈ wsX5_walk := List.mem_of_getElem? (i := 1) rfl
theorem kX5_walk_2 : Cond.fieldLink RX5 32 "FeastMarch$Plan" "going" "I" ∈ wsX5_walk := List.mem_of_getElem? (i := 2) rfl
theorem kX5_walk_3 : Cond.fieldLink RX5 15 "FeastMarch$Plan" "able" "[I" ∈ wsX5_walk := List.mem_of_getElem? (i := 3) rfl
theorem iX5_walk_X5 : ∀ w ∈ wsX50, w ∈ wsX5_walk := fun _ h => List.mem_cons_of_mem _ (List.mem_append_left _ (List.mem_append_left _ (List.mem_append_right _ h)))
theorem n_X5_walk : yX5_walk.cls = RX5 ∧ yX5_walk.cls ≠ "java/lang/invoke/MethodHandle" ∧ yX5_walk.cls ≠ "java/lang/invoke/VarHandle" ∧ (parseMethodDescriptor yX5_walk.desc).map (fun d => d.parameters.length) = some 3 := by decide +kernel
set_option maxHeartbeats 4000000 in
set_option maxRecDepth 100000 in
theorem c_X5_walk (l : Launch) (D : va_G) (N : Nat) (cI cB cZ cM cJ cK : ClassId) (a_t a_t_told a_t_able a_t_march a_p1 a_p1_first a_p1_second a_p1_hours a_p1_home a_p1_feet a_p1_far : Nat) (r_p1_far : Nat → Nat) (a_p2 : Nat) (t_size t_going : Int32) (t_able : Nat → Int32) (t_march_at t_march_hour t_march_fines t_march_led t_march_taken t_march_shut p1_corners p1_streets p1_leaders : Int32) (p1_first p1_second p1_hours p1_home p1_feet : Nat → Int32) (p1_far : Nat → Nat → Int32) (p2_at p2_hour p2_fines p2_led p2_taken p2_shut x3 : Int32) : gM l yX5_walk wsX5_walk rmX5_walk D (gT cI cB cZ cM cJ cK) (wX5_walk cI cB cZ cM cJ cK  a_t a_t_told a_t_able a_t_march a_p1 a_p1_first a_p1_second a_p1_hours a_p1_home a_p1_feet a_p1_far r_p1_far a_p2 t_size t_going t_able t_march_at t_march_hour t_march_fines t_march_led t_march_taken t_march_shut p1_corners p1_streets p1_leaders p1_first p1_second p1_hours p1_home p1_feet p1_far p2_at p2_hour p2_fines p2_led p2_taken p2_shut) [.ref a_t, .ref a_p1, .ref a_p2, .int x3] (fX5_walk N t_going t_able t_march_at t_march_hour t_march_fines t_march_led t_march_taken t_march_shut p1_streets p1_leaders p1_first p1_second p1_hours p1_home p1_feet p1_far p2_at p2_hour p2_fines p2_led p2_taken p2_shut x3) (fun _u : Int32 × Int32 × Int32 × Int32 × Int32 × Int32 => none) (fun _u : Int32 × Int32 × Int32 × Int32 × Int32 × Int32 => (wX5_walk cI cB cZ cM cJ cK  a_t a_t_told a_t_able a_t_march a_p1 a_p1_first a_p1_second a_p1_hours a_p1_home a_p1_feet a_p1_far r_p1_far a_p2 t_size t_going t_able _u.1 _u.2.1 _u.2.2.1 _u.2.2.2.1 _u.2.2.2.2.1 _u.2.2.2.2.2 p1_corners p1_streets p1_leaders p1_first p1_second p1_hours p1_home p1_feet p1_far p2_at p2_hour p2_fines p2_led p2_taken p2_shut)) := by
  refine g_start (cc := cX5_walk) (maxL := 5) (ret := none) (by decide) rfl (Nat.le_of_ble_eq_true rfl) ?_
  intro F hf hF p e s m below meth c A ls S hK hA Wd hr hlk hnm hl
  have b46 : ∀ (K11 : Int32 → Int32 → Int32 → Int32 → Int32 → Int32 → Int32 → Option (Int32 × Int32 × Int32 × Int32 × Int32 × Int32)) (hK11 : ∀ (t_march_at t_march_hour t_march_fines t_march_led t_march_taken t_march_shut x4 : Int32) (H1 : Heap) (locs1 : List Loc) (ls1 : Array Slot), gw D A s.heap (wX5_walk cI cB cZ cM cJ cK  a_t a_t_told a_t_able a_t_march a_p1 a_p1_first a_p1_second a_p1_hours a_p1_home a_p1_feet a_p1_far r_p1_far a_p2 t_size t_going t_able t_march_at t_march_hour t_march_fines t_march_led t_march_taken t_march_shut p1_corners p1_streets p1_leaders p1_first p1_second p1_hours p1_home p1_feet p1_far p2_at p2_hour p2_fines p2_led p2_taken p2_shut) H1 locs1 → lv_has ls1 5 [(0, .ref a_t), (1, .ref a_p1), (3, .int x3), (4, .int x4)] → F = K11 t_march_at t_march_hour t_march_fines t_march_led t_march_taken t_march_shut x4 → W p l e rmX5_walk s m [.ref a_t, .ref a_p1, .ref a_p2, .int x3].toArray below meth c H1 locs1 0 0 (MQ below (gQ F (fun _u : Int32 × Int32 × Int32 × Int32 × Int32 × Int32 => none) (fun _u : Int32 × Int32 × Int32 × Int32 × Int32 × Int32 => (wX5_walk cI cB cZ cM cJ cK  a_t a_t_told a_t_able a_t_march a_p1 a_p1_first a_p1_second a_p1_hours a_p1_home a_p1_feet a_p1_far r_p1_far a_p2 t_size t_going t_able _u.1 _u.2.1 _u.2.2.1 _u.2.2.2.1 _u.2.2.2.2.1 _u.2.2.2.2.2 p1_corners p1_streets p1_leaders p1_first p1_second p1_hours p1_home p1_feet p1_far p2_at p2_hour p2_fines p2_led p2_taken p2_shut)) D A) [.ref a_t, .ref a_p1, .ref a_p2, .int x3].toArray s 0 0 A) (F0 m 11 ls1 [])) , ∀ (t_march_at t_march_hour t_march_fines t_march_led t_march_taken t_march_shut x4 : Int32) (H1 : Heap) (locs1 : List Loc) (ls1 : Array Slot), gw D A s.heap (wX5_walk cI cB cZ cM cJ cK  a_t a_t_told a_t_able a_t_march a_p1 a_p1_first a_p1_second a_p1_hours a_p1_home a_p1_feet a_p1_far r_p1_far a_p2 t_size t_going t_able t_march_at t_march_hour t_march_fines t_march_led t_march_taken t_march_shut p1_corners p1_streets p1_leaders p1_first p1_second p1_hours p1_home p1_feet p1_far p2_at p2_hour p2_fines p2_led p2_taken p2_shut) H1 locs1 → lv_has ls1 5 [(0, .ref a_t), (1, .ref a_p1), (3, .int x3), (4, .int x4)] → F = fX5_walk_b46 N t_going t_able p1_streets p1_leaders p1_first p1_second p1_hours p1_home p1_feet p1_far p2_at p2_hour p2_fines p2_led p2_taken p2_shut x3 K11 t_march_at t_march_hour t_march_fines t_march_led t_march_taken t_march_shut x4 → W p l e rmX5_walk s m [.ref a_t, .ref a_p1, .ref a_p2, .int x3].toArray below meth c H1 locs1 0 0 (MQ below (gQ F (fun _u : Int32 × Int32 × Int32 × Int32 × Int32 × Int32 => none) (fun _u : Int32 × Int32 × Int32 × Int32 × Int32 × Int32 => (wX5_walk cI cB cZ cM cJ cK  a_t a_t_told a_t_able a_t_march a_p1 a_p1_first a_p1_second a_p1_hours a_p1_home a_p1_feet a_p1_far r_p1_far a_p2 t_size t_going t_able _u.1 _u.2.1 _u.2.2.1 _u.2.2.2.1 _u.2.2.2.2.1 _u.2.2.2.2.2 p1_corners p1_streets p1_leaders p1_first p1_second p1_hours p1_home p1_feet p1_far p2_at p2_hour p2_fines p2_led p2_taken p2_shut)) D A) [.ref a_t, .ref a_p1, .ref a_p2, .int x3].toArray s 0 0 A) (F0 m 46 ls1 []) := by
    intro K11 hK11 t_march_at t_march_hour t_march_fines t_march_led t_march_taken t_march_shut x4 H locs ls Wd hl hf
    refine lv_iinc (v := (x4 + (1 : Int32))) (lv' := [(4, .int (x4 + (1 : Int32))), (0, .ref a_t), (1, .ref a_p1), (3, .int x3)]) S.1 S.2.1 dX5_walk_46 hl (k := 3) rfl rfl (by decide) rfl (fun ls hl => ?_)
    refine lv_goto (tgt := 11) S.1 S.2.1 dX5_walk_49 rfl ?_
    exact hK11 t_march_at t_march_hour t_march_fines t_march_led t_march_taken t_march_shut (x4 + (1 : Int32)) _ _ _ Wd (lv_sub hl [1, 2, 3, 0] rfl) hf
  have b11 : ∀ (n : Nat), ∀ (t_march_at t_march_hour t_march_fines t_march_led t_march_taken t_march_shut x4 : Int32) (H1 : Heap) (locs1 : List Loc) (ls1 : Array Slot), gw D A s.heap (wX5_walk cI cB cZ cM cJ cK  a_t a_t_told a_t_able a_t_march a_p1 a_p1_first a_p1_second a_p1_hours a_p1_home a_p1_feet a_p1_far r_p1_far a_p2 t_size t_going t_able t_march_at t_march_hour t_march_fines t_march_led t_march_taken t_march_shut p1_corners p1_streets p1_leaders p1_first p1_second p1_hours p1_home p1_feet p1_far p2_at p2_hour p2_fines p2_led p2_taken p2_shut) H1 locs1 → lv_has ls1 5 [(0, .ref a_t), (1, .ref a_p1), (3, .int x3), (4, .int x4)] → F = fX5_walk_b11 N t_going t_able p1_streets p1_leaders p1_first p1_second p1_hours p1_home p1_feet p1_far p2_at p2_hour p2_fines p2_led p2_taken p2_shut x3  n t_march_at t_march_hour t_march_fines t_march_led t_march_taken t_march_shut x4 → W p l e rmX5_walk s m [.ref a_t, .ref a_p1, .ref a_p2, .int x3].toArray below meth c H1 locs1 0 0 (MQ below (gQ F (fun _u : Int32 × Int32 × Int32 × Int32 × Int32 × Int32 => none) (fun _u : Int32 × Int32 × Int32 × Int32 × Int32 × Int32 => (wX5_walk cI cB cZ cM cJ cK  a_t a_t_told a_t_able a_t_march a_p1 a_p1_first a_p1_second a_p1_hours a_p1_home a_p1_feet a_p1_far r_p1_far a_p2 t_size t_going t_able _u.1 _u.2.1 _u.2.2.1 _u.2.2.2.1 _u.2.2.2.2.1 _u.2.2.2.2.2 p1_corners p1_streets p1_leaders p1_first p1_second p1_hours p1_home p1_feet p1_far p2_at p2_hour p2_fines p2_led p2_taken p2_shut)) D A) [.ref a_t, .ref a_p1, .ref a_p2, .int x3].toArray s 0 0 A) (F0 m 11 ls1 []) := by
    intro  n
    induction n with
    | zero => intro t_march_at t_march_hour t_march_fines t_march_led t_march_taken t_march_shut x4 H locs ls Wd hl hf; exact absurd hf hF
    | succ n ih =>
      intro t_march_at t_march_hour t_march_fines t_march_led t_march_taken t_march_shut x4 H locs ls Wd hl hf
      refine lv_iload S.1 S.2.1 dX5_walk_11 (lv_at hl 3 rfl) ?_
      refine lv_aload_n S.1 S.2.1 dX5_walk_13 rfl (lv_at hl 0 rfl) ?_
      refine g_get (a := a_t) S hK Wd iX5_walk_X5 0 rfl rfl 4 rfl rfl kX5_walk_2 rfl dX5_walk_14 ?_
      refine lv_icmp_ge (tgt := 52) S.1 S.2.1 dX5_walk_17 rfl (fun c2 => ?_) (fun c2 => ?_)
      · have hf := g_if hf c2
        exact g_vret S Wd hr hlk dX5_walk_52 (t_march_at, t_march_hour, t_march_fines, t_march_led, t_march_taken, t_march_shut) hf rfl rfl
      · have hf := g_ifn hf c2
        refine lv_iload_n S.1 S.2.1 dX5_walk_20 rfl (lv_at hl 2 rfl) ?_
        refine lv_iload S.1 S.2.1 dX5_walk_21 (lv_at hl 3 rfl) ?_
        refine lv_ishr S.1 S.2.1 dX5_walk_23 ?_
        refine lv_iconst (v := 1) S.1 S.2.1 dX5_walk_24 (by decide) ?_
        refine lv_iand S.1 S.2.1 dX5_walk_25 ?_
        refine lv_iconst (v := 1) S.1 S.2.1 dX5_walk_26 (by decide) ?_
        refine lv_icmp_ne (tgt := 46) S.1 S.2.1 dX5_walk_27 rfl (fun c3 => ?_) (fun c3 => ?_)
        · have hf := g_ifn hf c3
          exact b46 (fun t_march_at t_march_hour t_march_fines t_march_led t_march_taken t_march_shut x4 => fX5_walk_b11 N t_going t_able p1_streets p1_leaders p1_first p1_second p1_hours p1_home p1_feet p1_far p2_at p2_hour p2_fines p2_led p2_taken p2_shut x3 n t_march_at t_march_hour t_march_fines t_march_led t_march_taken t_march_shut x4) ih t_march_at t_march_hour t_march_fines t_march_led t_march_taken t_march_shut x4 _ _ _ Wd hl hf
        · have hf := g_if hf c3
          refine lv_aload_n S.1 S.2.1 dX5_walk_30 rfl (lv_at hl 0 rfl) ?_
          refine g_get (a := a_t) S hK Wd iX5_walk_X5 0 rfl rfl 2 rfl rfl kX5_walk_1 rfl dX5_walk_31 ?_
          refine lv_aload_n S.1 S.2.1 dX5_walk_34 rfl (lv_at hl 1 rfl) ?_
          refine lv_aload_n S.1 S.2.1 dX5_walk_35 rfl (lv_at hl 0 rfl) ?_
          refine g_get (a := a_t) S hK Wd iX5_walk_X5 0 rfl rfl 1 rfl rfl kX5_walk_3 rfl dX5_walk_36 ?_
          refine lv_iload S.1 S.2.1 dX5_walk_39 (lv_at hl 3 rfl) ?_
          obtain ⟨h4, hf⟩ := g_gi hF hf
          refine g_iald (a := a_t_able) S hK Wd 1 0 rfl rfl h4 dX5_walk_41 ?_
          obtain ⟨u5, hu5, hf⟩ := g_bind hF hf
          refine g_callV (ws' := (wX5_walk cI cB cZ cM cJ cK  a_t a_t_told a_t_able a_t_march a_p1 a_p1_first a_p1_second a_p1_hours a_p1_home a_p1_feet a_p1_far r_p1_far a_p2 t_size t_going t_able u5.2.1 u5.2.2.1 u5.2.2.2.1 u5.2.2.2.2.1 u5.2.2.2.2.2 t_march_shut p1_corners p1_streets p1_leaders p1_first p1_second p1_hours p1_home p1_feet p1_far p2_at p2_hour p2_fines p2_led p2_taken p2_shut)) (As := [.ref a_p1, .int (t_able x4.toNatClampNeg)]) (rest := []) (st1 := [.int u5.1]) S hK hA Wd (c_X3_goBy l D N cI cB cZ cM cJ cK a_t_march a_p1 a_p1_first a_p1_second a_p1_hours a_p1_home a_p1_feet a_p1_far r_p1_far t_march_at t_march_hour t_march_fines t_march_led t_march_taken t_march_shut p1_corners p1_streets p1_leaders p1_first p1_second p1_hours p1_home p1_feet p1_far (t_able x4.toNatClampNeg)) (cwV 2 S.2.2.2.2 gX5_walk_X3_goBy rfl rfl rfl n_X3_goBy ⟨Nat.le_of_ble_eq_true rfl, Nat.le_of_ble_eq_true rfl⟩) hu5 [2, 3, 4, 5, 6, 7, 8, 9, 10] rfl rfl 0 3 rfl rfl rfl rfl rfl rfl rfl hl.1 rfl (Nat.le_of_ble_eq_true rfl) dX5_walk_42 ⟨Nat.zero_le _, Nat.zero_le _⟩ (fun H locs Wd => ?_)
          refine lv_pop S.1 S.2.1 dX5_walk_45 rfl ?_
          exact b46 (fun t_march_at t_march_hour t_march_fines t_march_led t_march_taken t_march_shut x4 => fX5_walk_b11 N t_going t_able p1_streets p1_leaders p1_first p1_second p1_hours p1_home p1_feet p1_far p2_at p2_hour p2_fines p2_led p2_taken p2_shut x3 n t_march_at t_march_hour t_march_fines t_march_led t_march_taken t_march_shut x4) ih u5.2.1 u5.2.2.1 u5.2.2.2.1 u5.2.2.2.2.1 u5.2.2.2.2.2 t_march_shut x4 _ _ _ Wd hl hf
  refine lv_aload_n S.1 S.2.1 dX5_walk_0 rfl (lv_at hl 0 rfl) ?_
  refine g_get (a := a_t) S hK Wd iX5_walk_X5 0 rfl rfl 2 rfl rfl kX5_walk_1 rfl dX5_walk_1 ?_
  refine lv_aload_n S.1 S.2.1 dX5_walk_4 rfl (lv_at hl 2 rfl) ?_
  obtain ⟨u1, hu1, hf⟩ := g_bind hF hf
  refine g_callV (ws' := (wX5_walk cI cB cZ cM cJ cK  a_t a_t_told a_t_able a_t_march a_p1 a_p1_first a_p1_second a_p1_hours a_p1_home a_p1_feet a_p1_far r_p1_far a_p2 t_size t_going t_able u1.1 u1.2.1 u1.2.2.1 u1.2.2.2.1 u1.2.2.2.2.1 u1.2.2.2.2.2 p1_corners p1_streets p1_leaders p1_first p1_second p1_hours p1_home p1_feet p1_far p2_at p2_hour p2_fines p2_led p2_taken p2_shut)) (As := [.ref a_p2]) (rest := []) (st1 := []) S hK hA Wd (c_X3_become l D N cI cB cZ cM cJ cK a_t_march a_p2 t_march_at t_march_hour t_march_fines t_march_led t_march_taken t_march_shut p2_at p2_hour p2_fines p2_led p2_taken p2_shut) (cwV 1 S.2.2.2.2 gX5_walk_X3_become rfl rfl rfl n_X3_become ⟨Nat.le_of_ble_eq_true rfl, Nat.le_of_ble_eq_true rfl⟩) hu1 [2, 11] rfl rfl 0 3 rfl rfl rfl rfl rfl rfl rfl hl.1 rfl (Nat.le_of_ble_eq_true rfl) dX5_walk_5 ⟨Nat.zero_le _, Nat.zero_le _⟩ (fun H locs Wd => ?_)
  refine lv_iconst (v := 0) S.1 S.2.1 dX5_walk_8 (by decide) ?_
  refine lv_istore (lv' := [(4, .int (0 : Int32)), (0, .ref a_t), (1, .ref a_p1), (2, .ref a_p2), (3, .int x3)]) S.1 S.2.1 dX5_walk_9 hl (by decide) rfl (fun ls hl => ?_)
  exact b11  N u1.1 u1.2.1 u1.2.2.1 u1.2.2.2.1 u1.2.2.2.2.1 u1.2.2.2.2.2 (0 : Int32) _ _ _ Wd (lv_sub hl [1, 2, 4, 0] rfl) hf
def wX5_wholeOfOdds (cI cB cZ cM cJ cK : ClassId) (a_t a_t_told a_t_able a_t_march : Nat) (t_size t_going : Int32) : List va_W := [[(a_t, .inr (5, [.ref a_t_told, .ref a_t_able, .ref a_t_march, .int t_size, .int t_going]))]]
def rmX5_wholeOfOdds : Room := { frames := 0, cells := 0, slots := 0, locals := 0 }
theorem kX5_wholeOfOdds_1 : Cond.fieldLink RX5 32 "FeastMarch$Plan" "going" "I" ∈ wsX5_wholeOfOdds := List.mem_of_getElem? (i := 1) rfl
theorem iX5_wholeOfOdds_X5 : ∀ w ∈ wsX50, w ∈ wsX5_wholeOfOdds := fun _ h => List.mem_cons_of_mem _ (List.mem_append_right _ h)
theorem n_X5_wholeOfOdds : yX5_wholeOfOdds.cls = RX5 ∧ yX5_wholeOfOdds.cls ≠ "java/lang/invoke/MethodHandle" ∧ yX5_wholeOfOdds.cls ≠ "java/lang/invoke/VarHandle" ∧ (parseMethodDescriptor yX5_wholeOfOdds.desc).map (fun d => d.parameters.length) = some 0 := by decide +kernel
set_option maxHeartbeats 4000000 in
set_option maxRecDepth 100000 in
theorem c_X5_wholeOfOdds (l : Launch) (D : va_G) (N : Nat) (cI cB cZ cM cJ cK : ClassId) (a_t a_t_told a_t_able a_t_march : Nat) (t_size t_going : Int32) : gM l yX5_wholeOfOdds wsX5_wholeOfOdds rmX5_wholeOfOdds D (gT cI cB cZ cM cJ cK) (wX5_wholeOfOdds cI cB cZ cM cJ cK  a_t a_t_told a_t_able a_t_march t_size t_going) [.ref a_t] (fX5_wholeOfOdds N t_going) (fun _u : Int32 => some (.int _u)) (fun _u : Int32 => (wX5_wholeOfOdds cI cB cZ cM cJ cK  a_t a_t_told a_t_able a_t_march t_size t_going)) := by
  refine g_start (cc := cX5_wholeOfOdds) (maxL := 3) (ret := (some .int)) (by decide) rfl (Nat.le_of_ble_eq_true rfl) ?_
  intro F hf hF p e s m below meth c A ls S hK hA Wd hr hlk hnm hl
  have b4 : ∀ (n : Nat), ∀ (x1 x2 : Int32) (H1 : Heap) (locs1 : List Loc) (ls1 : Array Slot), gw D A s.heap (wX5_wholeOfOdds cI cB cZ cM cJ cK  a_t a_t_told a_t_able a_t_march t_size t_going) H1 locs1 → lv_has ls1 3 [(0, .ref a_t), (1, .int x1), (2, .int x2)] → F = fX5_wholeOfOdds_b4 N t_going  n x1 x2 → W p l e rmX5_wholeOfOdds s m [.ref a_t].toArray below meth c H1 locs1 0 0 (MQ below (gQ F (fun _u : Int32 => some (.int _u)) (fun _u : Int32 => (wX5_wholeOfOdds cI cB cZ cM cJ cK  a_t a_t_told a_t_able a_t_march t_size t_going)) D A) [.ref a_t].toArray s 0 0 A) (F0 m 4 ls1 []) := by
    intro  n
    induction n with
    | zero => intro x1 x2 H locs ls Wd hl hf; exact absurd hf hF
    | succ n ih =>
      intro x1 x2 H locs ls Wd hl hf
      refine lv_iload_n S.1 S.2.1 dX5_wholeOfOdds_4 rfl (lv_at hl 2 rfl) ?_
      refine lv_aload_n S.1 S.2.1 dX5_wholeOfOdds_5 rfl (lv_at hl 0 rfl) ?_
      refine g_get (a := a_t) S hK Wd iX5_wholeOfOdds_X5 0 rfl rfl 4 rfl rfl kX5_wholeOfOdds_1 rfl dX5_wholeOfOdds_6 ?_
      refine lv_icmp_ge (tgt := 23) S.1 S.2.1 dX5_wholeOfOdds_9 rfl (fun c1 => ?_) (fun c1 => ?_)
      · have hf := g_if hf c1
        refine lv_iload_n S.1 S.2.1 dX5_wholeOfOdds_23 rfl (lv_at hl 1 rfl) ?_
        exact g_iret S Wd hr hlk dX5_wholeOfOdds_24 x1 hf rfl rfl
      · have hf := g_ifn hf c1
        refine lv_iload_n S.1 S.2.1 dX5_wholeOfOdds_12 rfl (lv_at hl 1 rfl) ?_
        refine lv_bipush (v := 10) S.1 S.2.1 dX5_wholeOfOdds_13 (by decide) ?_
        refine lv_imul S.1 S.2.1 dX5_wholeOfOdds_15 ?_
        refine lv_istore_n (lv' := [(1, .int (x1 * (10 : Int32))), (0, .ref a_t), (2, .int x2)]) S.1 S.2.1 dX5_wholeOfOdds_16 rfl hl (by decide) rfl (fun ls hl => ?_)
        refine lv_iinc (v := (x2 + (1 : Int32))) (lv' := [(2, .int (x2 + (1 : Int32))), (1, .int (x1 * (10 : Int32))), (0, .ref a_t)]) S.1 S.2.1 dX5_wholeOfOdds_17 hl (k := 2) rfl rfl (by decide) rfl (fun ls hl => ?_)
        refine lv_goto (tgt := 4) S.1 S.2.1 dX5_wholeOfOdds_20 rfl ?_
        exact ih (x1 * (10 : Int32)) (x2 + (1 : Int32)) _ _ _ Wd (lv_sub hl [2, 1, 0] rfl) hf
  refine lv_iconst (v := 1) S.1 S.2.1 dX5_wholeOfOdds_0 (by decide) ?_
  refine lv_istore_n (lv' := [(1, .int (1 : Int32)), (0, .ref a_t)]) S.1 S.2.1 dX5_wholeOfOdds_1 rfl hl (by decide) rfl (fun ls hl => ?_)
  refine lv_iconst (v := 0) S.1 S.2.1 dX5_wholeOfOdds_2 (by decide) ?_
  refine lv_istore_n (lv' := [(2, .int (0 : Int32)), (1, .int (1 : Int32)), (0, .ref a_t)]) S.1 S.2.1 dX5_wholeOfOdds_3 rfl hl (by decide) rfl (fun ls hl => ?_)
  exact b4  N (1 : Int32) (0 : Int32) _ _ _ Wd (lv_sub hl [2, 1, 0] rfl) hf
def wX5_oddsOf (cI cB cZ cM cJ cK : ClassId) (a_t a_t_told a_t_able a_t_march : Nat) (t_size t_going : Int32) : List va_W := [[(a_t, .inr (5, [.ref a_t_told, .ref a_t_able, .ref a_t_march, .int t_size, .int t_going]))]]
def rmX5_oddsOf : Room := { frames := 0, cells := 0, slots := 0, locals := 0 }
theorem kX5_oddsOf_1 : Cond.fieldLink RX5 32 "FeastMarch$Plan" "going" "I" ∈ wsX5_oddsOf := List.mem_of_getElem? (i := 1) rfl
theorem iX5_oddsOf_X5 : ∀ w ∈ wsX50, w ∈ wsX5_oddsOf := fun _ h => List.mem_cons_of_mem _ (List.mem_append_right _ h)
theorem n_X5_oddsOf : yX5_oddsOf.cls = RX5 ∧ yX5_oddsOf.cls ≠ "java/lang/invoke/MethodHandle" ∧ yX5_oddsOf.cls ≠ "java/lang/invoke/VarHandle" ∧ (parseMethodDescriptor yX5_oddsOf.desc).map (fun d => d.parameters.length) = some 2 := by decide +kernel
set_option maxHeartbeats 4000000 in
set_option maxRecDepth 100000 in
theorem c_X5_oddsOf (l : Launch) (D : va_G) (N : Nat) (cI cB cZ cM cJ cK : ClassId) (a_t a_t_told a_t_able a_t_march : Nat) (t_size t_going x1 x2 : Int32) : gM l yX5_oddsOf wsX5_oddsOf rmX5_oddsOf D (gT cI cB cZ cM cJ cK) (wX5_oddsOf cI cB cZ cM cJ cK  a_t a_t_told a_t_able a_t_march t_size t_going) [.ref a_t, .int x1, .int x2] (fX5_oddsOf N t_going x1 x2) (fun _u : Int32 => some (.int _u)) (fun _u : Int32 => (wX5_oddsOf cI cB cZ cM cJ cK  a_t a_t_told a_t_able a_t_march t_size t_going)) := by
  refine g_start (cc := cX5_oddsOf) (maxL := 5) (ret := (some .int)) (by decide) rfl (Nat.le_of_ble_eq_true rfl) ?_
  intro F hf hF p e s m below meth c A ls S hK hA Wd hr hlk hnm hl
  have b33 : ∀ (K5 : Int32 → Int32 → Option (Int32)) (hK5 : ∀ (x3 x4 : Int32) (H1 : Heap) (locs1 : List Loc) (ls1 : Array Slot), gw D A s.heap (wX5_oddsOf cI cB cZ cM cJ cK  a_t a_t_told a_t_able a_t_march t_size t_going) H1 locs1 → lv_has ls1 5 [(0, .ref a_t), (1, .int x1), (2, .int x2), (3, .int x3), (4, .int x4)] → F = K5 x3 x4 → W p l e rmX5_oddsOf s m [.ref a_t, .int x1, .int x2].toArray below meth c H1 locs1 0 0 (MQ below (gQ F (fun _u : Int32 => some (.int _u)) (fun _u : Int32 => (wX5_oddsOf cI cB cZ cM cJ cK  a_t a_t_told a_t_able a_t_march t_size t_going)) D A) [.ref a_t, .int x1, .int x2].toArray s 0 0 A) (F0 m 5 ls1 [])) , ∀ (x4 y0 y1 : Int32) (H1 : Heap) (locs1 : List Loc) (ls1 : Array Slot), gw D A s.heap (wX5_oddsOf cI cB cZ cM cJ cK  a_t a_t_told a_t_able a_t_march t_size t_going) H1 locs1 → lv_has ls1 5 [(0, .ref a_t), (1, .int x1), (2, .int x2), (4, .int x4)] → F = fX5_oddsOf_b33 N t_going x1 x2 K5 x4 y0 y1 → W p l e rmX5_oddsOf s m [.ref a_t, .int x1, .int x2].toArray below meth c H1 locs1 0 0 (MQ below (gQ F (fun _u : Int32 => some (.int _u)) (fun _u : Int32 => (wX5_oddsOf cI cB cZ cM cJ cK  a_t a_t_told a_t_able a_t_march t_size t_going)) D A) [.ref a_t, .int x1, .int x2].toArray s 0 0 A) (F0 m 33 ls1 [.int y0, .int y1]) := by
    intro K5 hK5 x4 y0 y1 H locs ls Wd hl hf
    refine lv_imul S.1 S.2.1 dX5_oddsOf_33 ?_
    refine lv_istore_n (lv' := [(3, .int (y1 * y0)), (0, .ref a_t), (1, .int x1), (2, .int x2), (4, .int x4)]) S.1 S.2.1 dX5_oddsOf_34 rfl hl (by decide) rfl (fun ls hl => ?_)
    refine lv_iinc (v := (x4 + (1 : Int32))) (lv' := [(4, .int (x4 + (1 : Int32))), (3, .int (y1 * y0)), (0, .ref a_t), (1, .int x1), (2, .int x2)]) S.1 S.2.1 dX5_oddsOf_35 hl (k := 4) rfl rfl (by decide) rfl (fun ls hl => ?_)
    refine lv_goto (tgt := 5) S.1 S.2.1 dX5_oddsOf_38 rfl ?_
    exact hK5 (y1 * y0) (x4 + (1 : Int32)) _ _ _ Wd (lv_sub hl [2, 3, 4, 1, 0] rfl) hf
  have b5 : ∀ (n : Nat), ∀ (x3 x4 : Int32) (H1 : Heap) (locs1 : List Loc) (ls1 : Array Slot), gw D A s.heap (wX5_oddsOf cI cB cZ cM cJ cK  a_t a_t_told a_t_able a_t_march t_size t_going) H1 locs1 → lv_has ls1 5 [(0, .ref a_t), (1, .int x1), (2, .int x2), (3, .int x3), (4, .int x4)] → F = fX5_oddsOf_b5 N t_going x1 x2  n x3 x4 → W p l e rmX5_oddsOf s m [.ref a_t, .int x1, .int x2].toArray below meth c H1 locs1 0 0 (MQ below (gQ F (fun _u : Int32 => some (.int _u)) (fun _u : Int32 => (wX5_oddsOf cI cB cZ cM cJ cK  a_t a_t_told a_t_able a_t_march t_size t_going)) D A) [.ref a_t, .int x1, .int x2].toArray s 0 0 A) (F0 m 5 ls1 []) := by
    intro  n
    induction n with
    | zero => intro x3 x4 H locs ls Wd hl hf; exact absurd hf hF
    | succ n ih =>
      intro x3 x4 H locs ls Wd hl hf
      refine lv_iload S.1 S.2.1 dX5_oddsOf_5 (lv_at hl 4 rfl) ?_
      refine lv_aload_n S.1 S.2.1 dX5_oddsOf_7 rfl (lv_at hl 0 rfl) ?_
      refine g_get (a := a_t) S hK Wd iX5_oddsOf_X5 0 rfl rfl 4 rfl rfl kX5_oddsOf_1 rfl dX5_oddsOf_8 ?_
      refine lv_icmp_ge (tgt := 41) S.1 S.2.1 dX5_oddsOf_11 rfl (fun c1 => ?_) (fun c1 => ?_)
      · have hf := g_if hf c1
        refine lv_iload_n S.1 S.2.1 dX5_oddsOf_41 rfl (lv_at hl 3 rfl) ?_
        exact g_iret S Wd hr hlk dX5_oddsOf_42 x3 hf rfl rfl
      · have hf := g_ifn hf c1
        refine lv_iload_n S.1 S.2.1 dX5_oddsOf_14 rfl (lv_at hl 3 rfl) ?_
        refine lv_iload_n S.1 S.2.1 dX5_oddsOf_15 rfl (lv_at hl 1 rfl) ?_
        refine lv_iload S.1 S.2.1 dX5_oddsOf_16 (lv_at hl 4 rfl) ?_
        refine lv_ishr S.1 S.2.1 dX5_oddsOf_18 ?_
        refine lv_iconst (v := 1) S.1 S.2.1 dX5_oddsOf_19 (by decide) ?_
        refine lv_iand S.1 S.2.1 dX5_oddsOf_20 ?_
        refine lv_iconst (v := 1) S.1 S.2.1 dX5_oddsOf_21 (by decide) ?_
        refine lv_icmp_ne (tgt := 32) S.1 S.2.1 dX5_oddsOf_22 rfl (fun c2 => ?_) (fun c2 => ?_)
        · have hf := g_ifn hf c2
          refine lv_iload_n S.1 S.2.1 dX5_oddsOf_32 rfl (lv_at hl 2 rfl) ?_
          exact b33 (fun x3 x4 => fX5_oddsOf_b5 N t_going x1 x2 n x3 x4) ih x4 x2 x3 _ _ _ Wd (lv_sub hl [0, 1, 2, 4] rfl) hf
        · have hf := g_if hf c2
          refine lv_bipush (v := 10) S.1 S.2.1 dX5_oddsOf_25 (by decide) ?_
          refine lv_iload_n S.1 S.2.1 dX5_oddsOf_27 rfl (lv_at hl 2 rfl) ?_
          refine lv_isub S.1 S.2.1 dX5_oddsOf_28 ?_
          refine lv_goto (tgt := 33) S.1 S.2.1 dX5_oddsOf_29 rfl ?_
          exact b33 (fun x3 x4 => fX5_oddsOf_b5 N t_going x1 x2 n x3 x4) ih x4 ((10 : Int32) - x2) x3 _ _ _ Wd (lv_sub hl [0, 1, 2, 4] rfl) hf
  refine lv_iconst (v := 1) S.1 S.2.1 dX5_oddsOf_0 (by decide) ?_
  refine lv_istore_n (lv' := [(3, .int (1 : Int32)), (0, .ref a_t), (1, .int x1), (2, .int x2)]) S.1 S.2.1 dX5_oddsOf_1 rfl hl (by decide) rfl (fun ls hl => ?_)
  refine lv_iconst (v := 0) S.1 S.2.1 dX5_oddsOf_2 (by decide) ?_
  refine lv_istore (lv' := [(4, .int (0 : Int32)), (3, .int (1 : Int32)), (0, .ref a_t), (1, .int x1), (2, .int x2)]) S.1 S.2.1 dX5_oddsOf_3 hl (by decide) rfl (fun ls hl => ?_)
  exact b5  N (1 : Int32) (0 : Int32) _ _ _ Wd (lv_sub hl [2, 3, 4, 1, 0] rfl) hf
def wX6_begin (cI cB cZ cM cJ cK : ClassId) (a_t a_t_told a_t_leading a_t_ended a_t_march a_p1 a_p1_first a_p1_second a_p1_hours a_p1_home a_p1_feet a_p1_far a_p2 : Nat) (t_size t_homes : Int32) (t_told : Nat → Int32) (p1_corners p1_streets p1_leaders : Int32) (p1_first p1_second p1_hours p1_home p1_feet : Nat → Int32) (p2_at p2_hour p2_fines p2_led p2_taken p2_shut : Int32) : List va_W := [[(a_t, .inr (6, [.ref a_t_told, .ref a_t_leading, .ref a_t_ended, .ref a_t_march, .int t_size, .int t_homes]))], [(a_t_told, .inl (cI, 6, .inl t_told))], [(a_p1, .inr (0, [.int p1_corners, .int p1_streets, .int p1_leaders, .ref a_p1_first, .ref a_p1_second, .ref a_p1_hours, .ref a_p1_home, .ref a_p1_feet, .ref a_p1_far]))], [(a_p1_first, .inl (cI, 12, .inl p1_first))], [(a_p1_second, .inl (cI, 12, .inl p1_second))], [(a_p1_hours, .inl (cI, 12, .inl p1_hours))], [(a_p1_home, .inl (cI, 6, .inl p1_home))], [(a_p1_feet, .inl (cI, 6, .inl p1_feet))], [(a_p2, .inr (3, [.int p2_at, .int p2_hour, .int p2_fines, .int p2_led, .int p2_taken, .int p2_shut]))]]
def rmX6_begin : Room := { frames := 1, cells := 0, slots := 0, locals := 21 }
theorem kX6_begin_1 : Cond.fieldLink RX6 28 "FeastMarch$Row" "size" "I" ∈ wsX6_begin := List.mem_of_getElem? (i := 1) rfl
theorem kX6_begin_2 : Cond.fieldLink RX6 32 "FeastMarch$City" "leaders" "I" ∈ wsX6_begin := List.mem_of_getElem? (i := 2) rfl
theorem kX6_begin_3 : Cond.fieldLink RX6 9 "FeastMarch$Row" "told" "[I" ∈ wsX6_begin := List.mem_of_getElem? (i := 3) rfl
theorem iX6_begin_X0 : ∀ w ∈ wsX00, w ∈ wsX6_begin := fun _ h => List.mem_cons_of_mem _ (List.mem_append_left _ (List.mem_append_right _ h))
theorem iX6_begin_X6 : ∀ w ∈ wsX60, w ∈ wsX6_begin := fun _ h => List.mem_cons_of_mem _ (List.mem_append_left _ (List.mem_append_left _ (List.mem_append_right _ h)))
theorem n_X6_begin : yX6_begin.cls = RX6 ∧ yX6_begin.cls ≠ "java/lang/invoke/MethodHandle" ∧ yX6_begin.cls ≠ "java/lang/invoke/VarHandle" ∧ (parseMethodDescriptor yX6_begin.desc).map (fun d => d.parameters.length) = some 2 := by decide +kernel
set_option maxHeartbeats 4000000 in
set_option maxRecDepth 100000 in
theorem c_X6_begin (l : Launch) (D : va_G) (N : Nat) (cI cB cZ cM cJ cK : ClassId) (a_t a_t_told a_t_leading a_t_ended a_t_march a_p1 a_p1_first a_p1_second a_p1_hours a_p1_home a_p1_feet a_p1_far a_p2 : Nat) (t_size t_homes : Int32) (t_told : Nat → Int32) (p1_corners p1_streets p1_leaders : Int32) (p1_first p1_second p1_hours p1_home p1_feet : Nat → Int32) (p2_at p2_hour p2_fines p2_led p2_taken p2_shut : Int32) : gM l yX6_begin wsX6_begin rmX6_begin D (gT cI cB cZ cM cJ cK) (wX6_begin cI cB cZ cM cJ cK  a_t a_t_told a_t_leading a_t_ended a_t_march a_p1 a_p1_first a_p1_second a_p1_hours a_p1_home a_p1_feet a_p1_far a_p2 t_size t_homes t_told p1_corners p1_streets p1_leaders p1_first p1_second p1_hours p1_home p1_feet p2_at p2_hour p2_fines p2_led p2_taken p2_shut) [.ref a_t, .ref a_p1, .ref a_p2] (fX6_begin N t_size t_told p1_leaders p2_led) (fun _u : Int32 × (Nat → Int32) => none) (fun _u : Int32 × (Nat → Int32) => (wX6_begin cI cB cZ cM cJ cK  a_t a_t_told a_t_leading a_t_ended a_t_march a_p1 a_p1_first a_p1_second a_p1_hours a_p1_home a_p1_feet a_p1_far a_p2 _u.1 t_homes _u.2 p1_corners p1_streets p1_leaders p1_first p1_second p1_hours p1_home p1_feet p2_at p2_hour p2_fines p2_led p2_taken p2_shut)) := by
  refine g_start (cc := cX6_begin) (maxL := 4) (ret := none) (by decide) rfl (Nat.le_of_ble_eq_true rfl) ?_
  intro F hf hF p e s m below meth c A ls S hK hA Wd hr hlk hnm hl
  have b43 : ∀ (K7 : Int32 → (Nat → Int32) → Int32 → Option (Int32 × (Nat → Int32))) (hK7 : ∀ (t_size : Int32) (t_told : Nat → Int32) (x3 : Int32) (H1 : Heap) (locs1 : List Loc) (ls1 : Array Slot), gw D A s.heap (wX6_begin cI cB cZ cM cJ cK  a_t a_t_told a_t_leading a_t_ended a_t_march a_p1 a_p1_first a_p1_second a_p1_hours a_p1_home a_p1_feet a_p1_far a_p2 t_size t_homes t_told p1_corners p1_streets p1_leaders p1_first p1_second p1_hours p1_home p1_feet p2_at p2_hour p2_fines p2_led p2_taken p2_shut) H1 locs1 → lv_has ls1 4 [(0, .ref a_t), (1, .ref a_p1), (2, .ref a_p2), (3, .int x3)] → F = K7 t_size t_told x3 → W p l e rmX6_begin s m [.ref a_t, .ref a_p1, .ref a_p2].toArray below meth c H1 locs1 0 0 (MQ below (gQ F (fun _u : Int32 × (Nat → Int32) => none) (fun _u : Int32 × (Nat → Int32) => (wX6_begin cI cB cZ cM cJ cK  a_t a_t_told a_t_leading a_t_ended a_t_march a_p1 a_p1_first a_p1_second a_p1_hours a_p1_home a_p1_feet a_p1_far a_p2 _u.1 t_homes _u.2 p1_corners p1_streets p1_leaders p1_first p1_second p1_hours p1_home p1_feet p2_at p2_hour p2_fines p2_led p2_taken p2_shut)) D A) [.ref a_t, .ref a_p1, .ref a_p2].toArray s 0 0 A) (F0 m 7 ls1 [])) , ∀ (t_size : Int32) (t_told : Nat → Int32) (x3 : Int32) (H1 : Heap) (locs1 : List Loc) (ls1 : Array Slot), gw D A s.heap (wX6_begin cI cB cZ cM cJ cK  a_t a_t_told a_t_leading a_t_ended a_t_march a_p1 a_p1_first a_p1_second a_p1_hours a_p1_home a_p1_feet a_p1_far a_p2 t_size t_homes t_told p1_corners p1_streets p1_leaders p1_first p1_second p1_hours p1_home p1_feet p2_at p2_hour p2_fines p2_led p2_taken p2_shut) H1 locs1 → lv_has ls1 4 [(0, .ref a_t), (1, .ref a_p1), (2, .ref a_p2), (3, .int x3)] → F = fX6_begin_b43 N p1_leaders p2_led K7 t_size t_told x3 → W p l e rmX6_begin s m [.ref a_t, .ref a_p1, .ref a_p2].toArray below meth c H1 locs1 0 0 (MQ below (gQ F (fun _u : Int32 × (Nat → Int32) => none) (fun _u : Int32 × (Nat → Int32) => (wX6_begin cI cB cZ cM cJ cK  a_t a_t_told a_t_leading a_t_ended a_t_march a_p1 a_p1_first a_p1_second a_p1_hours a_p1_home a_p1_feet a_p1_far a_p2 _u.1 t_homes _u.2 p1_corners p1_streets p1_leaders p1_first p1_second p1_hours p1_home p1_feet p2_at p2_hour p2_fines p2_led p2_taken p2_shut)) D A) [.ref a_t, .ref a_p1, .ref a_p2].toArray s 0 0 A) (F0 m 43 ls1 []) := by
    intro K7 hK7 t_size t_told x3 H locs ls Wd hl hf
    refine lv_iinc (v := (x3 + (1 : Int32))) (lv' := [(3, .int (x3 + (1 : Int32))), (0, .ref a_t), (1, .ref a_p1), (2, .ref a_p2)]) S.1 S.2.1 dX6_begin_43 hl (k := 3) rfl rfl (by decide) rfl (fun ls hl => ?_)
    refine lv_goto (tgt := 7) S.1 S.2.1 dX6_begin_46 rfl ?_
    exact hK7 t_size t_told (x3 + (1 : Int32)) _ _ _ Wd (lv_sub hl [1, 2, 3, 0] rfl) hf
  have b7 : ∀ (n : Nat), ∀ (t_size : Int32) (t_told : Nat → Int32) (x3 : Int32) (H1 : Heap) (locs1 : List Loc) (ls1 : Array Slot), gw D A s.heap (wX6_begin cI cB cZ cM cJ cK  a_t a_t_told a_t_leading a_t_ended a_t_march a_p1 a_p1_first a_p1_second a_p1_hours a_p1_home a_p1_feet a_p1_far a_p2 t_size t_homes t_told p1_corners p1_streets p1_leaders p1_first p1_second p1_hours p1_home p1_feet p2_at p2_hour p2_fines p2_led p2_taken p2_shut) H1 locs1 → lv_has ls1 4 [(0, .ref a_t), (1, .ref a_p1), (2, .ref a_p2), (3, .int x3)] → F = fX6_begin_b7 N p1_leaders p2_led  n t_size t_told x3 → W p l e rmX6_begin s m [.ref a_t, .ref a_p1, .ref a_p2].toArray below meth c H1 locs1 0 0 (MQ below (gQ F (fun _u : Int32 × (Nat → Int32) => none) (fun _u : Int32 × (Nat → Int32) => (wX6_begin cI cB cZ cM cJ cK  a_t a_t_told a_t_leading a_t_ended a_t_march a_p1 a_p1_first a_p1_second a_p1_hours a_p1_home a_p1_feet a_p1_far a_p2 _u.1 t_homes _u.2 p1_corners p1_streets p1_leaders p1_first p1_second p1_hours p1_home p1_feet p2_at p2_hour p2_fines p2_led p2_taken p2_shut)) D A) [.ref a_t, .ref a_p1, .ref a_p2].toArray s 0 0 A) (F0 m 7 ls1 []) := by
    intro  n
    induction n with
    | zero => intro t_size t_told x3 H locs ls Wd hl hf; exact absurd hf hF
    | succ n ih =>
      intro t_size t_told x3 H locs ls Wd hl hf
      refine lv_iload_n S.1 S.2.1 dX6_begin_7 rfl (lv_at hl 3 rfl) ?_
      refine lv_aload_n S.1 S.2.1 dX6_begin_8 rfl (lv_at hl 1 rfl) ?_
      refine g_get (a := a_p1) S hK Wd iX6_begin_X0 2 rfl rfl 2 rfl rfl kX6_begin_2 rfl dX6_begin_9 ?_
      refine lv_icmp_ge (tgt := 49) S.1 S.2.1 dX6_begin_12 rfl (fun c1 => ?_) (fun c1 => ?_)
      · have hf := g_if hf c1
        exact g_vret S Wd hr hlk dX6_begin_49 (t_size, t_told) hf rfl rfl
      · have hf := g_ifn hf c1
        refine lv_aload_n S.1 S.2.1 dX6_begin_15 rfl (lv_at hl 2 rfl) ?_
        refine lv_iload_n S.1 S.2.1 dX6_begin_16 rfl (lv_at hl 3 rfl) ?_
        obtain ⟨u2, hu2, hf⟩ := g_bind hF hf
        refine g_callV (ws' := (wX6_begin cI cB cZ cM cJ cK  a_t a_t_told a_t_leading a_t_ended a_t_march a_p1 a_p1_first a_p1_second a_p1_hours a_p1_home a_p1_feet a_p1_far a_p2 t_size t_homes t_told p1_corners p1_streets p1_leaders p1_first p1_second p1_hours p1_home p1_feet p2_at p2_hour p2_fines p2_led p2_taken p2_shut)) (As := [.int x3]) (rest := []) (st1 := [.int u2]) S hK hA Wd (c_X3_hasLed l D N cI cB cZ cM cJ cK a_p2 p2_at p2_hour p2_fines p2_led p2_taken p2_shut x3) (cwV 1 S.2.2.2.2 gX6_begin_X3_hasLed rfl rfl rfl n_X3_hasLed ⟨Nat.le_of_ble_eq_true rfl, Nat.le_of_ble_eq_true rfl⟩) hu2 [8] rfl rfl 0 3 rfl rfl rfl rfl rfl rfl rfl hl.1 rfl (Nat.le_of_ble_eq_true rfl) dX6_begin_17 ⟨Nat.zero_le _, Nat.zero_le _⟩ (fun H locs Wd => ?_)
        refine lv_if_ne (tgt := 43) S.1 S.2.1 dX6_begin_20 rfl (fun c3 => ?_) (fun c3 => ?_)
        · have hf := g_ifn hf c3
          exact b43 (fun t_size t_told x3 => fX6_begin_b7 N p1_leaders p2_led n t_size t_told x3) ih t_size t_told x3 _ _ _ Wd hl hf
        · have hf := g_if hf c3
          refine lv_aload_n S.1 S.2.1 dX6_begin_23 rfl (lv_at hl 0 rfl) ?_
          refine g_get (a := a_t) S hK Wd iX6_begin_X6 0 rfl rfl 0 rfl rfl kX6_begin_3 rfl dX6_begin_24 ?_
          refine lv_aload_n S.1 S.2.1 dX6_begin_27 rfl (lv_at hl 0 rfl) ?_
          refine g_get (a := a_t) S hK Wd iX6_begin_X6 0 rfl rfl 4 rfl rfl kX6_begin_1 rfl dX6_begin_28 ?_
          refine lv_iload_n S.1 S.2.1 dX6_begin_31 rfl (lv_at hl 3 rfl) ?_
          obtain ⟨h4, hf⟩ := g_gi hF hf
          refine g_iast (a := a_t_told) (ws' := (wX6_begin cI cB cZ cM cJ cK  a_t a_t_told a_t_leading a_t_ended a_t_march a_p1 a_p1_first a_p1_second a_p1_hours a_p1_home a_p1_feet a_p1_far a_p2 t_size t_homes (upd t_told t_size.toNatClampNeg x3) p1_corners p1_streets p1_leaders p1_first p1_second p1_hours p1_home p1_feet p2_at p2_hour p2_fines p2_led p2_taken p2_shut)) S hK Wd 1 0 rfl rfl h4 dX6_begin_32 rfl (fun H locs Wd => ?_)
          refine lv_aload_n S.1 S.2.1 dX6_begin_33 rfl (lv_at hl 0 rfl) ?_
          refine lv_dup S.1 S.2.1 dX6_begin_34 rfl ?_
          refine g_get (a := a_t) S hK Wd iX6_begin_X6 0 rfl rfl 4 rfl rfl kX6_begin_1 rfl dX6_begin_35 ?_
          refine lv_iconst (v := 1) S.1 S.2.1 dX6_begin_38 (by decide) ?_
          refine lv_iadd S.1 S.2.1 dX6_begin_39 ?_
          refine g_put (a := a_t) (ws' := (wX6_begin cI cB cZ cM cJ cK  a_t a_t_told a_t_leading a_t_ended a_t_march a_p1 a_p1_first a_p1_second a_p1_hours a_p1_home a_p1_feet a_p1_far a_p2 (t_size + (1 : Int32)) t_homes (upd t_told t_size.toNatClampNeg x3) p1_corners p1_streets p1_leaders p1_first p1_second p1_hours p1_home p1_feet p2_at p2_hour p2_fines p2_led p2_taken p2_shut)) S hK Wd iX6_begin_X6 tyX6 tyX6_ok nmX6 0 rfl rfl 4 rfl rfl kX6_begin_1 rfl rfl rfl dX6_begin_40 rfl (fun H locs Wd => ?_)
          exact b43 (fun t_size t_told x3 => fX6_begin_b7 N p1_leaders p2_led n t_size t_told x3) ih (t_size + (1 : Int32)) (upd t_told t_size.toNatClampNeg x3) x3 _ _ _ Wd hl hf
  refine lv_aload_n S.1 S.2.1 dX6_begin_0 rfl (lv_at hl 0 rfl) ?_
  refine lv_iconst (v := 0) S.1 S.2.1 dX6_begin_1 (by decide) ?_
  refine g_put (a := a_t) (ws' := (wX6_begin cI cB cZ cM cJ cK  a_t a_t_told a_t_leading a_t_ended a_t_march a_p1 a_p1_first a_p1_second a_p1_hours a_p1_home a_p1_feet a_p1_far a_p2 (0 : Int32) t_homes t_told p1_corners p1_streets p1_leaders p1_first p1_second p1_hours p1_home p1_feet p2_at p2_hour p2_fines p2_led p2_taken p2_shut)) S hK Wd iX6_begin_X6 tyX6 tyX6_ok nmX6 0 rfl rfl 4 rfl rfl kX6_begin_1 rfl rfl rfl dX6_begin_2 rfl (fun H locs Wd => ?_)
  refine lv_iconst (v := 0) S.1 S.2.1 dX6_begin_5 (by decide) ?_
  refine lv_istore_n (lv' := [(3, .int (0 : Int32)), (0, .ref a_t), (1, .ref a_p1), (2, .ref a_p2)]) S.1 S.2.1 dX6_begin_6 rfl hl (by decide) rfl (fun ls hl => ?_)
  exact b7  N (0 : Int32) t_told (0 : Int32) _ _ _ Wd (lv_sub hl [1, 2, 3, 0] rfl) hf
def wX6_swap (cI cB cZ cM cJ cK : ClassId) (a_t a_t_told a_t_leading a_t_ended a_t_march : Nat) (t_size t_homes : Int32) (t_told : Nat → Int32) : List va_W := [[(a_t, .inr (6, [.ref a_t_told, .ref a_t_leading, .ref a_t_ended, .ref a_t_march, .int t_size, .int t_homes]))], [(a_t_told, .inl (cI, 6, .inl t_told))]]
def rmX6_swap : Room := { frames := 0, cells := 0, slots := 0, locals := 0 }
theorem kX6_swap_1 : Cond.fieldLink RX6 9 "FeastMarch$Row" "told" "[I" ∈ wsX6_swap := List.mem_of_getElem? (i := 1) rfl
theorem iX6_swap_X6 : ∀ w ∈ wsX60, w ∈ wsX6_swap := fun _ h => List.mem_cons_of_mem _ (List.mem_append_right _ h)
theorem n_X6_swap : yX6_swap.cls = RX6 ∧ yX6_swap.cls ≠ "java/lang/invoke/MethodHandle" ∧ yX6_swap.cls ≠ "java/lang/invoke/VarHandle" ∧ (parseMethodDescriptor yX6_swap.desc).map (fun d => d.parameters.length) = some 2 := by decide +kernel
set_option maxHeartbeats 4000000 in
set_option maxRecDepth 100000 in
theorem c_X6_swap (l : Launch) (D : va_G) (N : Nat) (cI cB cZ cM cJ cK : ClassId) (a_t a_t_told a_t_leading a_t_ended a_t_march : Nat) (t_size t_homes : Int32) (t_told : Nat → Int32) (x1 x2 : Int32) : gM l yX6_swap wsX6_swap rmX6_swap D (gT cI cB cZ cM cJ cK) (wX6_swap cI cB cZ cM cJ cK  a_t a_t_told a_t_leading a_t_ended a_t_march t_size t_homes t_told) [.ref a_t, .int x1, .int x2] (fX6_swap N t_told x1 x2) (fun _u : (Nat → Int32) => none) (fun _u : (Nat → Int32) => (wX6_swap cI cB cZ cM cJ cK  a_t a_t_told a_t_leading a_t_ended a_t_march t_size t_homes _u)) := by
  refine g_start (cc := cX6_swap) (maxL := 4) (ret := none) (by decide) rfl (Nat.le_of_ble_eq_true rfl) ?_
  intro F hf hF p e s m below meth c A ls S hK hA Wd hr hlk hnm hl
  refine lv_aload_n S.1 S.2.1 dX6_swap_0 rfl (lv_at hl 0 rfl) ?_
  refine g_get (a := a_t) S hK Wd iX6_swap_X6 0 rfl rfl 0 rfl rfl kX6_swap_1 rfl dX6_swap_1 ?_
  refine lv_iload_n S.1 S.2.1 dX6_swap_4 rfl (lv_at hl 1 rfl) ?_
  obtain ⟨h1, hf⟩ := g_gi hF hf
  refine g_iald (a := a_t_told) S hK Wd 1 0 rfl rfl h1 dX6_swap_5 ?_
  refine lv_istore_n (lv' := [(3, .int (t_told x1.toNatClampNeg)), (0, .ref a_t), (1, .int x1), (2, .int x2)]) S.1 S.2.1 dX6_swap_6 rfl hl (by decide) rfl (fun ls hl => ?_)
  refine lv_aload_n S.1 S.2.1 dX6_swap_7 rfl (lv_at hl 1 rfl) ?_
  refine g_get (a := a_t) S hK Wd iX6_swap_X6 0 rfl rfl 0 rfl rfl kX6_swap_1 rfl dX6_swap_8 ?_
  refine lv_iload_n S.1 S.2.1 dX6_swap_11 rfl (lv_at hl 2 rfl) ?_
  refine lv_aload_n S.1 S.2.1 dX6_swap_12 rfl (lv_at hl 1 rfl) ?_
  refine g_get (a := a_t) S hK Wd iX6_swap_X6 0 rfl rfl 0 rfl rfl kX6_swap_1 rfl dX6_swap_13 ?_
  refine lv_iload_n S.1 S.2.1 dX6_swap_16 rfl (lv_at hl 3 rfl) ?_
  obtain ⟨h2, hf⟩ := g_gi hF hf
  refine g_iald (a := a_t_told) S hK Wd 1 0 rfl rfl h2 dX6_swap_17 ?_
  obtain ⟨h3, hf⟩ := g_gi hF hf
  refine g_iast (a := a_t_told) (ws' := (wX6_swap cI cB cZ cM cJ cK  a_t a_t_told a_t_leading a_t_ended a_t_march t_size t_homes (upd t_told x1.toNatClampNeg (t_told x2.toNatClampNeg)))) S hK Wd 1 0 rfl rfl h3 dX6_swap_18 rfl (fun H locs Wd => ?_)
  refine lv_aload_n S.1 S.2.1 dX6_swap_19 rfl (lv_at hl 1 rfl) ?_
  refine g_get (a := a_t) S hK Wd iX6_swap_X6 0 rfl rfl 0 rfl rfl kX6_swap_1 rfl dX6_swap_20 ?_
  refine lv_iload_n S.1 S.2.1 dX6_swap_23 rfl (lv_at hl 3 rfl) ?_
  refine lv_iload_n S.1 S.2.1 dX6_swap_24 rfl (lv_at hl 0 rfl) ?_
  obtain ⟨h4, hf⟩ := g_gi hF hf
  refine g_iast (a := a_t_told) (ws' := (wX6_swap cI cB cZ cM cJ cK  a_t a_t_told a_t_leading a_t_ended a_t_march t_size t_homes (upd (upd t_told x1.toNatClampNeg (t_told x2.toNatClampNeg)) x2.toNatClampNeg (t_told x1.toNatClampNeg)))) S hK Wd 1 0 rfl rfl h4 dX6_swap_25 rfl (fun H locs Wd => ?_)
  exact g_vret S Wd hr hlk dX6_swap_26 (upd (upd t_told x1.toNatClampNeg (t_told x2.toNatClampNeg)) x2.toNatClampNeg (t_told x1.toNatClampNeg)) hf rfl rfl
def wX6_next (cI cB cZ cM cJ cK : ClassId) (a_t a_t_told a_t_leading a_t_ended a_t_march : Nat) (t_size t_homes : Int32) (t_told : Nat → Int32) : List va_W := [[(a_t, .inr (6, [.ref a_t_told, .ref a_t_leading, .ref a_t_ended, .ref a_t_march, .int t_size, .int t_homes]))], [(a_t_told, .inl (cI, 6, .inl t_told))]]
def rmX6_next : Room := { frames := 1, cells := 0, slots := 0, locals := 23 }
theorem kX6_next_1 : Cond.fieldLink RX6 28 "FeastMarch$Row" "size" "I" ∈ wsX6_next := List.mem_of_getElem? (i := 1) rfl
theorem kX6_next_2 : Cond.fieldLink RX6 9 "FeastMarch$Row" "told" "[I" ∈ wsX6_next := List.mem_of_getElem? (i := 2) rfl
theorem iX6_next_X6 : ∀ w ∈ wsX60, w ∈ wsX6_next := fun _ h => List.mem_cons_of_mem _ (List.mem_append_right _ h)
theorem n_X6_next : yX6_next.cls = RX6 ∧ yX6_next.cls ≠ "java/lang/invoke/MethodHandle" ∧ yX6_next.cls ≠ "java/lang/invoke/VarHandle" ∧ (parseMethodDescriptor yX6_next.desc).map (fun d => d.parameters.length) = some 0 := by decide +kernel
set_option maxHeartbeats 4000000 in
set_option maxRecDepth 100000 in
theorem c_X6_next (l : Launch) (D : va_G) (N : Nat) (cI cB cZ cM cJ cK : ClassId) (a_t a_t_told a_t_leading a_t_ended a_t_march : Nat) (t_size t_homes : Int32) (t_told : Nat → Int32) : gM l yX6_next wsX6_next rmX6_next D (gT cI cB cZ cM cJ cK) (wX6_next cI cB cZ cM cJ cK  a_t a_t_told a_t_leading a_t_ended a_t_march t_size t_homes t_told) [.ref a_t] (fX6_next N t_size t_told) (fun _u : Int32 × (Nat → Int32) => some (.int _u.1)) (fun _u : Int32 × (Nat → Int32) => (wX6_next cI cB cZ cM cJ cK  a_t a_t_told a_t_leading a_t_ended a_t_march t_size t_homes _u.2)) := by
  refine g_start (cc := cX6_next) (maxL := 5) (ret := (some .boolean)) (by decide) rfl (Nat.le_of_ble_eq_true rfl) ?_
  intro F hf hF p e s m below meth c A ls S hK hA Wd hr hlk hnm hl
  have b93 : ∀ (n : Nat), ∀ (t_told : Nat → Int32) (x3 x4 : Int32) (H1 : Heap) (locs1 : List Loc) (ls1 : Array Slot), gw D A s.heap (wX6_next cI cB cZ cM cJ cK  a_t a_t_told a_t_leading a_t_ended a_t_march t_size t_homes t_told) H1 locs1 → lv_has ls1 5 [(0, .ref a_t), (3, .int x3), (4, .int x4)] → F = fX6_next_b93 N t_size  n t_told x3 x4 → W p l e rmX6_next s m [.ref a_t].toArray below meth c H1 locs1 0 0 (MQ below (gQ F (fun _u : Int32 × (Nat → Int32) => some (.int _u.1)) (fun _u : Int32 × (Nat → Int32) => (wX6_next cI cB cZ cM cJ cK  a_t a_t_told a_t_leading a_t_ended a_t_march t_size t_homes _u.2)) D A) [.ref a_t].toArray s 0 0 A) (F0 m 93 ls1 []) := by
    intro  n
    induction n with
    | zero => intro t_told x3 x4 H locs ls Wd hl hf; exact absurd hf hF
    | succ n ih =>
      intro t_told x3 x4 H locs ls Wd hl hf
      refine lv_iload_n S.1 S.2.1 dX6_next_93 rfl (lv_at hl 1 rfl) ?_
      refine lv_iload S.1 S.2.1 dX6_next_94 (lv_at hl 2 rfl) ?_
      refine lv_icmp_ge (tgt := 115) S.1 S.2.1 dX6_next_96 rfl (fun c11 => ?_) (fun c11 => ?_)
      · have hf := g_if hf c11
        refine lv_iconst (v := 1) S.1 S.2.1 dX6_next_115 (by decide) ?_
        exact g_zret S Wd hr hlk rfl dX6_next_116 ((1 : Int32), t_told) hf rfl rfl
      · have hf := g_ifn hf c11
        refine lv_aload_n S.1 S.2.1 dX6_next_99 rfl (lv_at hl 0 rfl) ?_
        refine lv_iload_n S.1 S.2.1 dX6_next_100 rfl (lv_at hl 1 rfl) ?_
        refine lv_iload S.1 S.2.1 dX6_next_101 (lv_at hl 2 rfl) ?_
        obtain ⟨u12, hu12, hf⟩ := g_bind hF hf
        refine g_callV (ws' := (wX6_next cI cB cZ cM cJ cK  a_t a_t_told a_t_leading a_t_ended a_t_march t_size t_homes u12)) (As := [.int x3, .int x4]) (rest := []) (st1 := []) S hK hA Wd (c_X6_swap l D N cI cB cZ cM cJ cK a_t a_t_told a_t_leading a_t_ended a_t_march t_size t_homes t_told x3 x4) (cwV 2 S.2.2.2.2 gX6_next_X6_swap rfl rfl rfl n_X6_swap ⟨Nat.le_of_ble_eq_true rfl, Nat.le_of_ble_eq_true rfl⟩) hu12 [0, 1] rfl rfl 0 6 rfl rfl rfl rfl rfl rfl rfl hl.1 rfl (Nat.le_of_ble_eq_true rfl) dX6_next_103 ⟨Nat.zero_le _, Nat.zero_le _⟩ (fun H locs Wd => ?_)
        refine lv_iinc (v := (x3 + (1 : Int32))) (lv' := [(3, .int (x3 + (1 : Int32))), (0, .ref a_t), (4, .int x4)]) S.1 S.2.1 dX6_next_106 hl (k := 1) rfl rfl (by decide) rfl (fun ls hl => ?_)
        refine lv_iinc (v := (x4 + (-1 : Int32))) (lv' := [(4, .int (x4 + (-1 : Int32))), (3, .int (x3 + (1 : Int32))), (0, .ref a_t)]) S.1 S.2.1 dX6_next_109 hl (k := 2) rfl rfl (by decide) rfl (fun ls hl => ?_)
        refine lv_goto (tgt := 93) S.1 S.2.1 dX6_next_112 rfl ?_
        exact ih u12 (x3 + (1 : Int32)) (x4 + (-1 : Int32)) _ _ _ Wd (lv_sub hl [2, 1, 0] rfl) hf
  have b75 : ∀ (t_told : Nat → Int32) (x1 x2 : Int32) (H1 : Heap) (locs1 : List Loc) (ls1 : Array Slot), gw D A s.heap (wX6_next cI cB cZ cM cJ cK  a_t a_t_told a_t_leading a_t_ended a_t_march t_size t_homes t_told) H1 locs1 → lv_has ls1 5 [(0, .ref a_t), (1, .int x1), (2, .int x2)] → F = fX6_next_b75 N t_size  t_told x1 x2 → W p l e rmX6_next s m [.ref a_t].toArray below meth c H1 locs1 0 0 (MQ below (gQ F (fun _u : Int32 × (Nat → Int32) => some (.int _u.1)) (fun _u : Int32 × (Nat → Int32) => (wX6_next cI cB cZ cM cJ cK  a_t a_t_told a_t_leading a_t_ended a_t_march t_size t_homes _u.2)) D A) [.ref a_t].toArray s 0 0 A) (F0 m 75 ls1 []) := by
    intro  t_told x1 x2 H locs ls Wd hl hf
    refine lv_aload_n S.1 S.2.1 dX6_next_75 rfl (lv_at hl 0 rfl) ?_
    refine lv_iload_n S.1 S.2.1 dX6_next_76 rfl (lv_at hl 1 rfl) ?_
    refine lv_iload_n S.1 S.2.1 dX6_next_77 rfl (lv_at hl 2 rfl) ?_
    obtain ⟨u10, hu10, hf⟩ := g_bind hF hf
    refine g_callV (ws' := (wX6_next cI cB cZ cM cJ cK  a_t a_t_told a_t_leading a_t_ended a_t_march t_size t_homes u10)) (As := [.int x1, .int x2]) (rest := []) (st1 := []) S hK hA Wd (c_X6_swap l D N cI cB cZ cM cJ cK a_t a_t_told a_t_leading a_t_ended a_t_march t_size t_homes t_told x1 x2) (cwV 2 S.2.2.2.2 gX6_next_X6_swap rfl rfl rfl n_X6_swap ⟨Nat.le_of_ble_eq_true rfl, Nat.le_of_ble_eq_true rfl⟩) hu10 [0, 1] rfl rfl 0 6 rfl rfl rfl rfl rfl rfl rfl hl.1 rfl (Nat.le_of_ble_eq_true rfl) dX6_next_78 ⟨Nat.zero_le _, Nat.zero_le _⟩ (fun H locs Wd => ?_)
    refine lv_iload_n S.1 S.2.1 dX6_next_81 rfl (lv_at hl 1 rfl) ?_
    refine lv_iconst (v := 1) S.1 S.2.1 dX6_next_82 (by decide) ?_
    refine lv_iadd S.1 S.2.1 dX6_next_83 ?_
    refine lv_istore_n (lv' := [(3, .int (x1 + (1 : Int32))), (0, .ref a_t), (1, .int x1), (2, .int x2)]) S.1 S.2.1 dX6_next_84 rfl hl (by decide) rfl (fun ls hl => ?_)
    refine lv_aload_n S.1 S.2.1 dX6_next_85 rfl (lv_at hl 1 rfl) ?_
    refine g_get (a := a_t) S hK Wd iX6_next_X6 0 rfl rfl 4 rfl rfl kX6_next_1 rfl dX6_next_86 ?_
    refine lv_iconst (v := 1) S.1 S.2.1 dX6_next_89 (by decide) ?_
    refine lv_isub S.1 S.2.1 dX6_next_90 ?_
    refine lv_istore (lv' := [(4, .int (t_size - (1 : Int32))), (3, .int (x1 + (1 : Int32))), (0, .ref a_t), (1, .int x1), (2, .int x2)]) S.1 S.2.1 dX6_next_91 hl (by decide) rfl (fun ls hl => ?_)
    exact b93  N u10 (x1 + (1 : Int32)) (t_size - (1 : Int32)) _ _ _ Wd (lv_sub hl [2, 1, 0] rfl) hf
  have b47 : ∀ (n : Nat), ∀ (t_told : Nat → Int32) (x1 x2 : Int32) (H1 : Heap) (locs1 : List Loc) (ls1 : Array Slot), gw D A s.heap (wX6_next cI cB cZ cM cJ cK  a_t a_t_told a_t_leading a_t_ended a_t_march t_size t_homes t_told) H1 locs1 → lv_has ls1 5 [(0, .ref a_t), (1, .int x1), (2, .int x2)] → F = fX6_next_b47 N t_size  n t_told x1 x2 → W p l e rmX6_next s m [.ref a_t].toArray below meth c H1 locs1 0 0 (MQ below (gQ F (fun _u : Int32 × (Nat → Int32) => some (.int _u.1)) (fun _u : Int32 × (Nat → Int32) => (wX6_next cI cB cZ cM cJ cK  a_t a_t_told a_t_leading a_t_ended a_t_march t_size t_homes _u.2)) D A) [.ref a_t].toArray s 0 0 A) (F0 m 47 ls1 []) := by
    intro  n
    induction n with
    | zero => intro t_told x1 x2 H locs ls Wd hl hf; exact absurd hf hF
    | succ n ih =>
      intro t_told x1 x2 H locs ls Wd hl hf
      refine lv_iload_n S.1 S.2.1 dX6_next_47 rfl (lv_at hl 2 rfl) ?_
      refine lv_iload_n S.1 S.2.1 dX6_next_48 rfl (lv_at hl 1 rfl) ?_
      refine lv_iconst (v := 1) S.1 S.2.1 dX6_next_49 (by decide) ?_
      refine lv_iadd S.1 S.2.1 dX6_next_50 ?_
      refine lv_icmp_le (tgt := 75) S.1 S.2.1 dX6_next_51 rfl (fun c6 => ?_) (fun c6 => ?_)
      · have hf := g_if hf c6
        exact b75  t_told x1 x2 _ _ _ Wd hl hf
      · have hf := g_ifn hf c6
        refine lv_aload_n S.1 S.2.1 dX6_next_54 rfl (lv_at hl 0 rfl) ?_
        refine g_get (a := a_t) S hK Wd iX6_next_X6 0 rfl rfl 0 rfl rfl kX6_next_2 rfl dX6_next_55 ?_
        refine lv_iload_n S.1 S.2.1 dX6_next_58 rfl (lv_at hl 2 rfl) ?_
        obtain ⟨h7, hf⟩ := g_gi hF hf
        refine g_iald (a := a_t_told) S hK Wd 1 0 rfl rfl h7 dX6_next_59 ?_
        refine lv_aload_n S.1 S.2.1 dX6_next_60 rfl (lv_at hl 0 rfl) ?_
        refine g_get (a := a_t) S hK Wd iX6_next_X6 0 rfl rfl 0 rfl rfl kX6_next_2 rfl dX6_next_61 ?_
        refine lv_iload_n S.1 S.2.1 dX6_next_64 rfl (lv_at hl 1 rfl) ?_
        obtain ⟨h8, hf⟩ := g_gi hF hf
        refine g_iald (a := a_t_told) S hK Wd 1 0 rfl rfl h8 dX6_next_65 ?_
        refine lv_icmp_ge (tgt := 75) S.1 S.2.1 dX6_next_66 rfl (fun c9 => ?_) (fun c9 => ?_)
        · have hf := g_if hf c9
          exact b75  t_told x1 x2 _ _ _ Wd hl hf
        · have hf := g_ifn hf c9
          refine lv_iinc (v := (x2 + (-1 : Int32))) (lv' := [(2, .int (x2 + (-1 : Int32))), (0, .ref a_t), (1, .int x1)]) S.1 S.2.1 dX6_next_69 hl (k := 2) rfl rfl (by decide) rfl (fun ls hl => ?_)
          refine lv_goto (tgt := 47) S.1 S.2.1 dX6_next_72 rfl ?_
          exact ih t_told x1 (x2 + (-1 : Int32)) _ _ _ Wd (lv_sub hl [1, 2, 0] rfl) hf
  have b34 : ∀ (t_told : Nat → Int32) (x1 : Int32) (H1 : Heap) (locs1 : List Loc) (ls1 : Array Slot), gw D A s.heap (wX6_next cI cB cZ cM cJ cK  a_t a_t_told a_t_leading a_t_ended a_t_march t_size t_homes t_told) H1 locs1 → lv_has ls1 5 [(0, .ref a_t), (1, .int x1)] → F = fX6_next_b34 N t_size  t_told x1 → W p l e rmX6_next s m [.ref a_t].toArray below meth c H1 locs1 0 0 (MQ below (gQ F (fun _u : Int32 × (Nat → Int32) => some (.int _u.1)) (fun _u : Int32 × (Nat → Int32) => (wX6_next cI cB cZ cM cJ cK  a_t a_t_told a_t_leading a_t_ended a_t_march t_size t_homes _u.2)) D A) [.ref a_t].toArray s 0 0 A) (F0 m 34 ls1 []) := by
    intro  t_told x1 H locs ls Wd hl hf
    refine lv_iload_n S.1 S.2.1 dX6_next_34 rfl (lv_at hl 1 rfl) ?_
    refine lv_if_ge (tgt := 40) S.1 S.2.1 dX6_next_35 rfl (fun c5 => ?_) (fun c5 => ?_)
    · have hf := g_if hf c5
      refine lv_aload_n S.1 S.2.1 dX6_next_40 rfl (lv_at hl 0 rfl) ?_
      refine g_get (a := a_t) S hK Wd iX6_next_X6 0 rfl rfl 4 rfl rfl kX6_next_1 rfl dX6_next_41 ?_
      refine lv_iconst (v := 1) S.1 S.2.1 dX6_next_44 (by decide) ?_
      refine lv_isub S.1 S.2.1 dX6_next_45 ?_
      refine lv_istore_n (lv' := [(2, .int (t_size - (1 : Int32))), (0, .ref a_t), (1, .int x1)]) S.1 S.2.1 dX6_next_46 rfl hl (by decide) rfl (fun ls hl => ?_)
      exact b47  N t_told x1 (t_size - (1 : Int32)) _ _ _ Wd (lv_sub hl [1, 2, 0] rfl) hf
    · have hf := g_ifn hf c5
      refine lv_iconst (v := 0) S.1 S.2.1 dX6_next_38 (by decide) ?_
      exact g_zret S Wd hr hlk rfl dX6_next_39 ((0 : Int32), t_told) hf rfl rfl
  have b7 : ∀ (n : Nat), ∀ (t_told : Nat → Int32) (x1 : Int32) (H1 : Heap) (locs1 : List Loc) (ls1 : Array Slot), gw D A s.heap (wX6_next cI cB cZ cM cJ cK  a_t a_t_told a_t_leading a_t_ended a_t_march t_size t_homes t_told) H1 locs1 → lv_has ls1 5 [(0, .ref a_t), (1, .int x1)] → F = fX6_next_b7 N t_size  n t_told x1 → W p l e rmX6_next s m [.ref a_t].toArray below meth c H1 locs1 0 0 (MQ below (gQ F (fun _u : Int32 × (Nat → Int32) => some (.int _u.1)) (fun _u : Int32 × (Nat → Int32) => (wX6_next cI cB cZ cM cJ cK  a_t a_t_told a_t_leading a_t_ended a_t_march t_size t_homes _u.2)) D A) [.ref a_t].toArray s 0 0 A) (F0 m 7 ls1 []) := by
    intro  n
    induction n with
    | zero => intro t_told x1 H locs ls Wd hl hf; exact absurd hf hF
    | succ n ih =>
      intro t_told x1 H locs ls Wd hl hf
      refine lv_iload_n S.1 S.2.1 dX6_next_7 rfl (lv_at hl 1 rfl) ?_
      refine lv_if_lt (tgt := 34) S.1 S.2.1 dX6_next_8 rfl (fun c1 => ?_) (fun c1 => ?_)
      · have hf := g_if hf c1
        exact b34  t_told x1 _ _ _ Wd hl hf
      · have hf := g_ifn hf c1
        refine lv_aload_n S.1 S.2.1 dX6_next_11 rfl (lv_at hl 0 rfl) ?_
        refine g_get (a := a_t) S hK Wd iX6_next_X6 0 rfl rfl 0 rfl rfl kX6_next_2 rfl dX6_next_12 ?_
        refine lv_iload_n S.1 S.2.1 dX6_next_15 rfl (lv_at hl 1 rfl) ?_
        obtain ⟨h2, hf⟩ := g_gi hF hf
        refine g_iald (a := a_t_told) S hK Wd 1 0 rfl rfl h2 dX6_next_16 ?_
        refine lv_aload_n S.1 S.2.1 dX6_next_17 rfl (lv_at hl 0 rfl) ?_
        refine g_get (a := a_t) S hK Wd iX6_next_X6 0 rfl rfl 0 rfl rfl kX6_next_2 rfl dX6_next_18 ?_
        refine lv_iload_n S.1 S.2.1 dX6_next_21 rfl (lv_at hl 1 rfl) ?_
        refine lv_iconst (v := 1) S.1 S.2.1 dX6_next_22 (by decide) ?_
        refine lv_iadd S.1 S.2.1 dX6_next_23 ?_
        obtain ⟨h3, hf⟩ := g_gi hF hf
        refine g_iald (a := a_t_told) S hK Wd 1 0 rfl rfl h3 dX6_next_24 ?_
        refine lv_icmp_le (tgt := 34) S.1 S.2.1 dX6_next_25 rfl (fun c4 => ?_) (fun c4 => ?_)
        · have hf := g_if hf c4
          exact b34  t_told x1 _ _ _ Wd hl hf
        · have hf := g_ifn hf c4
          refine lv_iinc (v := (x1 + (-1 : Int32))) (lv' := [(1, .int (x1 + (-1 : Int32))), (0, .ref a_t)]) S.1 S.2.1 dX6_next_28 hl (k := 1) rfl rfl (by decide) rfl (fun ls hl => ?_)
          refine lv_goto (tgt := 7) S.1 S.2.1 dX6_next_31 rfl ?_
          exact ih t_told (x1 + (-1 : Int32)) _ _ _ Wd (lv_sub hl [1, 0] rfl) hf
  refine lv_aload_n S.1 S.2.1 dX6_next_0 rfl (lv_at hl 0 rfl) ?_
  refine g_get (a := a_t) S hK Wd iX6_next_X6 0 rfl rfl 4 rfl rfl kX6_next_1 rfl dX6_next_1 ?_
  refine lv_iconst (v := 2) S.1 S.2.1 dX6_next_4 (by decide) ?_
  refine lv_isub S.1 S.2.1 dX6_next_5 ?_
  refine lv_istore_n (lv' := [(1, .int (t_size - (2 : Int32))), (0, .ref a_t)]) S.1 S.2.1 dX6_next_6 rfl hl (by decide) rfl (fun ls hl => ?_)
  exact b7  N t_told (t_size - (2 : Int32)) _ _ _ Wd (lv_sub hl [1, 0] rfl) hf
def wX6_walk (cI cB cZ cM cJ cK : ClassId) (a_t a_t_told a_t_leading a_t_ended a_t_march a_p1 a_p1_first a_p1_second a_p1_hours a_p1_home a_p1_feet a_p1_far : Nat) (r_p1_far : Nat → Nat) (a_p2 : Nat) (t_size t_homes : Int32) (t_told t_leading t_ended : Nat → Int32) (t_march_at t_march_hour t_march_fines t_march_led t_march_taken t_march_shut p1_corners p1_streets p1_leaders : Int32) (p1_first p1_second p1_hours p1_home p1_feet : Nat → Int32) (p1_far : Nat → Nat → Int32) (p2_at p2_hour p2_fines p2_led p2_taken p2_shut : Int32) : List va_W := [[(a_t, .inr (6, [.ref a_t_told, .ref a_t_leading, .ref a_t_ended, .ref a_t_march, .int t_size, .int t_homes]))], [(a_t_told, .inl (cI, 6, .inl t_told))], [(a_t_leading, .inl (cI, 6, .inl t_leading))], [(a_t_ended, .inl (cI, 6, .inl t_ended))], [(a_t_march, .inr (3, [.int t_march_at, .int t_march_hour, .int t_march_fines, .int t_march_led, .int t_march_taken, .int t_march_shut]))], [(a_p1, .inr (0, [.int p1_corners, .int p1_streets, .int p1_leaders, .ref a_p1_first, .ref a_p1_second, .ref a_p1_hours, .ref a_p1_home, .ref a_p1_feet, .ref a_p1_far]))], [(a_p1_first, .inl (cI, 12, .inl p1_first))], [(a_p1_second, .inl (cI, 12, .inl p1_second))], [(a_p1_hours, .inl (cI, 12, .inl p1_hours))], [(a_p1_home, .inl (cI, 6, .inl p1_home))], [(a_p1_feet, .inl (cI, 6, .inl p1_feet))], [(a_p1_far, .inl (cK, 8, .inr (.inr (.inr (.inr (famR 8 r_p1_far))))))], faC cI r_p1_far p1_far, [(a_p2, .inr (3, [.int p2_at, .int p2_hour, .int p2_fines, .int p2_led, .int p2_taken, .int p2_shut]))]]
def rmX6_walk : Room := { frames := 3, cells := 0, slots := 0, locals := 78 }
theorem kX6_walk_1 : Cond.fieldLink RX6 24 "FeastMarch$Row" "march" "LFeastMarch$March;" ∈ wsX6_walk := List.mem_of_getElem? (i := 1) rfl
theorem kX6_walk_2 : Cond.fieldLink RX6 49 "FeastMarch$Row" "homes" "I" ∈ wsX6_walk := List.mem_of_getElem? (i := 2) rfl
theorem kX6_walk_3 : Cond.fieldLink RX6 28 "FeastMarch$Row" "size" "I" ∈ wsX6_walk := List.mem_of_getElem? (i := 3) rfl
theorem kX6_walk_4 : Cond.fieldLink RX6 9 "FeastMarch$Row" "told" "[I" ∈ wsX6_walk := List.mem_of_getElem? (i := 4) rfl
theorem kX6_walk_5 : Cond.fieldLink RX6 15 "FeastMarch$Row" "leading" "[I" ∈ wsX6_walk := List.mem_of_getElem? (i := 5) rfl
theorem kX6_walk_6 : Cond.fieldLink RX6 18 "FeastMarch$Row" "ended" "[I" ∈ wsX6_walk := List.mem_of_getElem? (i := 6) rfl
theorem kX6_walk_7 : Cond.fieldLink RX6 56 "FeastMarch$March" "at" "I" ∈ wsX6_walk := List.mem_of_getElem? (i := 7) rfl
theorem kX6_walk_8 : Cond.fieldLink RX6 59 "FeastMarch$City" "home" "[I" ∈ wsX6_walk := List.mem_of_getElem? (i := 8) rfl
theorem iX6_walk_X0 : ∀ w ∈ wsX00, w ∈ wsX6_walk := fun _ h => List.mem_cons_of_mem _ (List.mem_append_right _ h)
theorem iX6_walk_X3 : ∀ w ∈ wsX30, w ∈ wsX6_walk := fun _ h => List.mem_cons_of_mem _ (List.mem_append_left _ (List.mem_append_right _ h))
theorem iX6_walk_X6 : ∀ w ∈ wsX60, w ∈ wsX6_walk := fun _ h => List.mem_cons_of_mem _ (List.mem_append_left _ (List.mem_append_left _ (List.mem_append_right _ h)))
theorem n_X6_walk : yX6_walk.cls = RX6 ∧ yX6_walk.cls ≠ "java/lang/invoke/MethodHandle" ∧ yX6_walk.cls ≠ "java/lang/invoke/VarHandle" ∧ (parseMethodDescriptor yX6_walk.desc).map (fun d => d.parameters.length) = some 2 := by decide +kernel
set_option maxHeartbeats 4000000 in
set_option maxRecDepth 100000 in
theorem c_X6_walk (l : Launch) (D : va_G) (N : Nat) (cI cB cZ cM cJ cK : ClassId) (a_t a_t_told a_t_leading a_t_ended a_t_march a_p1 a_p1_first a_p1_second a_p1_hours a_p1_home a_p1_feet a_p1_far : Nat) (r_p1_far : Nat → Nat) (a_p2 : Nat) (t_size t_homes : Int32) (t_told t_leading t_ended : Nat → Int32) (t_march_at t_march_hour t_march_fines t_march_led t_march_taken t_march_shut p1_corners p1_streets p1_leaders : Int32) (p1_first p1_second p1_hours p1_home p1_feet : Nat → Int32) (p1_far : Nat → Nat → Int32) (p2_at p2_hour p2_fines p2_led p2_taken p2_shut : Int32) : gM l yX6_walk wsX6_walk rmX6_walk D (gT cI cB cZ cM cJ cK) (wX6_walk cI cB cZ cM cJ cK  a_t a_t_told a_t_leading a_t_ended a_t_march a_p1 a_p1_first a_p1_second a_p1_hours a_p1_home a_p1_feet a_p1_far r_p1_far a_p2 t_size t_homes t_told t_leading t_ended t_march_at t_march_hour t_march_fines t_march_led t_march_taken t_march_shut p1_corners p1_streets p1_leaders p1_first p1_second p1_hours p1_home p1_feet p1_far p2_at p2_hour p2_fines p2_led p2_taken p2_shut) [.ref a_t, .ref a_p1, .ref a_p2] (fX6_walk N t_size t_homes t_told t_leading t_ended t_march_at t_march_hour t_march_fines t_march_led t_march_taken t_march_shut p1_streets p1_leaders p1_first p1_second p1_hours p1_home p1_feet p1_far p2_at p2_hour p2_fines p2_led p2_taken p2_shut) (fun _u : Int32 × (Nat → Int32) × (Nat → Int32) × Int32 × Int32 × Int32 × Int32 × Int32 × Int32 => none) (fun _u : Int32 × (Nat → Int32) × (Nat → Int32) × Int32 × Int32 × Int32 × Int32 × Int32 × Int32 => (wX6_walk cI cB cZ cM cJ cK  a_t a_t_told a_t_leading a_t_ended a_t_march a_p1 a_p1_first a_p1_second a_p1_hours a_p1_home a_p1_feet a_p1_far r_p1_far a_p2 t_size _u.1 t_told _u.2.1 _u.2.2.1 _u.2.2.2.1 _u.2.2.2.2.1 _u.2.2.2.2.2.1 _u.2.2.2.2.2.2.1 _u.2.2.2.2.2.2.2.1 _u.2.2.2.2.2.2.2.2 p1_corners p1_streets p1_leaders p1_first p1_second p1_hours p1_home p1_feet p1_far p2_at p2_hour p2_fines p2_led p2_taken p2_shut)) := by
  refine g_start (cc := cX6_walk) (maxL := 8) (ret := none) (by decide) rfl (Nat.le_of_ble_eq_true rfl) ?_
  intro F hf hF p e s m below meth c A ls S hK hA Wd hr hlk hnm hl
  have b150 : ∀ (K29 : Int32 → (Nat → Int32) → (Nat → Int32) → Int32 → Int32 → Int32 → Int32 → Int32 → Int32 → Int32 → Int32 → Int32 → Int32 → Option (Int32 × (Nat → Int32) × (Nat → Int32) × Int32 × Int32 × Int32 × Int32 × Int32 × Int32)) (hK29 : ∀ (t_homes : Int32) (t_leading t_ended : Nat → Int32) (t_march_at t_march_hour t_march_fines t_march_led t_march_taken t_march_shut x3 x4 x5 x6 : Int32) (H1 : Heap) (locs1 : List Loc) (ls1 : Array Slot), gw D A s.heap (wX6_walk cI cB cZ cM cJ cK  a_t a_t_told a_t_leading a_t_ended a_t_march a_p1 a_p1_first a_p1_second a_p1_hours a_p1_home a_p1_feet a_p1_far r_p1_far a_p2 t_size t_homes t_told t_leading t_ended t_march_at t_march_hour t_march_fines t_march_led t_march_taken t_march_shut p1_corners p1_streets p1_leaders p1_first p1_second p1_hours p1_home p1_feet p1_far p2_at p2_hour p2_fines p2_led p2_taken p2_shut) H1 locs1 → lv_has ls1 8 [(0, .ref a_t), (1, .ref a_p1), (3, .int x3), (4, .int x4), (5, .int x5), (6, .int x6)] → F = K29 t_homes t_leading t_ended t_march_at t_march_hour t_march_fines t_march_led t_march_taken t_march_shut x3 x4 x5 x6 → W p l e rmX6_walk s m [.ref a_t, .ref a_p1, .ref a_p2].toArray below meth c H1 locs1 0 0 (MQ below (gQ F (fun _u : Int32 × (Nat → Int32) × (Nat → Int32) × Int32 × Int32 × Int32 × Int32 × Int32 × Int32 => none) (fun _u : Int32 × (Nat → Int32) × (Nat → Int32) × Int32 × Int32 × Int32 × Int32 × Int32 × Int32 => (wX6_walk cI cB cZ cM cJ cK  a_t a_t_told a_t_leading a_t_ended a_t_march a_p1 a_p1_first a_p1_second a_p1_hours a_p1_home a_p1_feet a_p1_far r_p1_far a_p2 t_size _u.1 t_told _u.2.1 _u.2.2.1 _u.2.2.2.1 _u.2.2.2.2.1 _u.2.2.2.2.2.1 _u.2.2.2.2.2.2.1 _u.2.2.2.2.2.2.2.1 _u.2.2.2.2.2.2.2.2 p1_corners p1_streets p1_leaders p1_first p1_second p1_hours p1_home p1_feet p1_far p2_at p2_hour p2_fines p2_led p2_taken p2_shut)) D A) [.ref a_t, .ref a_p1, .ref a_p2].toArray s 0 0 A) (F0 m 29 ls1 [])) , ∀ (t_homes : Int32) (t_leading t_ended : Nat → Int32) (t_march_at t_march_hour t_march_fines t_march_led t_march_taken t_march_shut x3 x4 x5 x6 : Int32) (H1 : Heap) (locs1 : List Loc) (ls1 : Array Slot), gw D A s.heap (wX6_walk cI cB cZ cM cJ cK  a_t a_t_told a_t_leading a_t_ended a_t_march a_p1 a_p1_first a_p1_second a_p1_hours a_p1_home a_p1_feet a_p1_far r_p1_far a_p2 t_size t_homes t_told t_leading t_ended t_march_at t_march_hour t_march_fines t_march_led t_march_taken t_march_shut p1_corners p1_streets p1_leaders p1_first p1_second p1_hours p1_home p1_feet p1_far p2_at p2_hour p2_fines p2_led p2_taken p2_shut) H1 locs1 → lv_has ls1 8 [(0, .ref a_t), (1, .ref a_p1), (3, .int x3), (4, .int x4), (5, .int x5), (6, .int x6)] → F = fX6_walk_b150 N t_size t_told p1_streets p1_leaders p1_first p1_second p1_hours p1_home p1_feet p1_far p2_at p2_hour p2_fines p2_led p2_taken p2_shut K29 t_homes t_leading t_ended t_march_at t_march_hour t_march_fines t_march_led t_march_taken t_march_shut x3 x4 x5 x6 → W p l e rmX6_walk s m [.ref a_t, .ref a_p1, .ref a_p2].toArray below meth c H1 locs1 0 0 (MQ below (gQ F (fun _u : Int32 × (Nat → Int32) × (Nat → Int32) × Int32 × Int32 × Int32 × Int32 × Int32 × Int32 => none) (fun _u : Int32 × (Nat → Int32) × (Nat → Int32) × Int32 × Int32 × Int32 × Int32 × Int32 × Int32 => (wX6_walk cI cB cZ cM cJ cK  a_t a_t_told a_t_leading a_t_ended a_t_march a_p1 a_p1_first a_p1_second a_p1_hours a_p1_home a_p1_feet a_p1_far r_p1_far a_p2 t_size _u.1 t_told _u.2.1 _u.2.2.1 _u.2.2.2.1 _u.2.2.2.2.1 _u.2.2.2.2.2.1 _u.2.2.2.2.2.2.1 _u.2.2.2.2.2.2.2.1 _u.2.2.2.2.2.2.2.2 p1_corners p1_streets p1_leaders p1_first p1_second p1_hours p1_home p1_feet p1_far p2_at p2_hour p2_fines p2_led p2_taken p2_shut)) D A) [.ref a_t, .ref a_p1, .ref a_p2].toArray s 0 0 A) (F0 m 150 ls1 []) := by
    intro K29 hK29 t_homes t_leading t_ended t_march_at t_march_hour t_march_fines t_march_led t_march_taken t_march_shut x3 x4 x5 x6 H locs ls Wd hl hf
    refine lv_iinc (v := (x6 + (1 : Int32))) (lv' := [(6, .int (x6 + (1 : Int32))), (0, .ref a_t), (1, .ref a_p1), (3, .int x3), (4, .int x4), (5, .int x5)]) S.1 S.2.1 dX6_walk_150 hl (k := 5) rfl rfl (by decide) rfl (fun ls hl => ?_)
    refine lv_goto (tgt := 29) S.1 S.2.1 dX6_walk_153 rfl ?_
    exact hK29 t_homes t_leading t_ended t_march_at t_march_hour t_march_fines t_march_led t_march_taken t_march_shut x3 x4 x5 (x6 + (1 : Int32)) _ _ _ Wd (lv_sub hl [1, 2, 3, 4, 5, 0] rfl) hf
  have b100 : ∀ (K29 : Int32 → (Nat → Int32) → (Nat → Int32) → Int32 → Int32 → Int32 → Int32 → Int32 → Int32 → Int32 → Int32 → Int32 → Int32 → Option (Int32 × (Nat → Int32) × (Nat → Int32) × Int32 × Int32 × Int32 × Int32 × Int32 × Int32)) (hK29 : ∀ (t_homes : Int32) (t_leading t_ended : Nat → Int32) (t_march_at t_march_hour t_march_fines t_march_led t_march_taken t_march_shut x3 x4 x5 x6 : Int32) (H1 : Heap) (locs1 : List Loc) (ls1 : Array Slot), gw D A s.heap (wX6_walk cI cB cZ cM cJ cK  a_t a_t_told a_t_leading a_t_ended a_t_march a_p1 a_p1_first a_p1_second a_p1_hours a_p1_home a_p1_feet a_p1_far r_p1_far a_p2 t_size t_homes t_told t_leading t_ended t_march_at t_march_hour t_march_fines t_march_led t_march_taken t_march_shut p1_corners p1_streets p1_leaders p1_first p1_second p1_hours p1_home p1_feet p1_far p2_at p2_hour p2_fines p2_led p2_taken p2_shut) H1 locs1 → lv_has ls1 8 [(0, .ref a_t), (1, .ref a_p1), (3, .int x3), (4, .int x4), (5, .int x5), (6, .int x6)] → F = K29 t_homes t_leading t_ended t_march_at t_march_hour t_march_fines t_march_led t_march_taken t_march_shut x3 x4 x5 x6 → W p l e rmX6_walk s m [.ref a_t, .ref a_p1, .ref a_p2].toArray below meth c H1 locs1 0 0 (MQ below (gQ F (fun _u : Int32 × (Nat → Int32) × (Nat → Int32) × Int32 × Int32 × Int32 × Int32 × Int32 × Int32 => none) (fun _u : Int32 × (Nat → Int32) × (Nat → Int32) × Int32 × Int32 × Int32 × Int32 × Int32 × Int32 => (wX6_walk cI cB cZ cM cJ cK  a_t a_t_told a_t_leading a_t_ended a_t_march a_p1 a_p1_first a_p1_second a_p1_hours a_p1_home a_p1_feet a_p1_far r_p1_far a_p2 t_size _u.1 t_told _u.2.1 _u.2.2.1 _u.2.2.2.1 _u.2.2.2.2.1 _u.2.2.2.2.2.1 _u.2.2.2.2.2.2.1 _u.2.2.2.2.2.2.2.1 _u.2.2.2.2.2.2.2.2 p1_corners p1_streets p1_leaders p1_first p1_second p1_hours p1_home p1_feet p1_far p2_at p2_hour p2_fines p2_led p2_taken p2_shut)) D A) [.ref a_t, .ref a_p1, .ref a_p2].toArray s 0 0 A) (F0 m 29 ls1 [])) , ∀ (t_homes : Int32) (t_leading t_ended : Nat → Int32) (t_march_at t_march_hour t_march_fines t_march_led t_march_taken t_march_shut x3 x4 x5 x6 x7 : Int32) (H1 : Heap) (locs1 : List Loc) (ls1 : Array Slot), gw D A s.heap (wX6_walk cI cB cZ cM cJ cK  a_t a_t_told a_t_leading a_t_ended a_t_march a_p1 a_p1_first a_p1_second a_p1_hours a_p1_home a_p1_feet a_p1_far r_p1_far a_p2 t_size t_homes t_told t_leading t_ended t_march_at t_march_hour t_march_fines t_march_led t_march_taken t_march_shut p1_corners p1_streets p1_leaders p1_first p1_second p1_hours p1_home p1_feet p1_far p2_at p2_hour p2_fines p2_led p2_taken p2_shut) H1 locs1 → lv_has ls1 8 [(0, .ref a_t), (1, .ref a_p1), (3, .int x3), (4, .int x4), (5, .int x5), (6, .int x6), (7, .int x7)] → F = fX6_walk_b100 N t_size t_told p1_streets p1_leaders p1_first p1_second p1_hours p1_home p1_feet p1_far p2_at p2_hour p2_fines p2_led p2_taken p2_shut K29 t_homes t_leading t_ended t_march_at t_march_hour t_march_fines t_march_led t_march_taken t_march_shut x3 x4 x5 x6 x7 → W p l e rmX6_walk s m [.ref a_t, .ref a_p1, .ref a_p2].toArray below meth c H1 locs1 0 0 (MQ below (gQ F (fun _u : Int32 × (Nat → Int32) × (Nat → Int32) × Int32 × Int32 × Int32 × Int32 × Int32 × Int32 => none) (fun _u : Int32 × (Nat → Int32) × (Nat → Int32) × Int32 × Int32 × Int32 × Int32 × Int32 × Int32 => (wX6_walk cI cB cZ cM cJ cK  a_t a_t_told a_t_leading a_t_ended a_t_march a_p1 a_p1_first a_p1_second a_p1_hours a_p1_home a_p1_feet a_p1_far r_p1_far a_p2 t_size _u.1 t_told _u.2.1 _u.2.2.1 _u.2.2.2.1 _u.2.2.2.2.1 _u.2.2.2.2.2.1 _u.2.2.2.2.2.2.1 _u.2.2.2.2.2.2.2.1 _u.2.2.2.2.2.2.2.2 p1_corners p1_streets p1_leaders p1_first p1_second p1_hours p1_home p1_feet p1_far p2_at p2_hour p2_fines p2_led p2_taken p2_shut)) D A) [.ref a_t, .ref a_p1, .ref a_p2].toArray s 0 0 A) (F0 m 100 ls1 []) := by
    intro K29 hK29 t_homes t_leading t_ended t_march_at t_march_hour t_march_fines t_march_led t_march_taken t_march_shut x3 x4 x5 x6 x7 H locs ls Wd hl hf
    refine lv_aload_n S.1 S.2.1 dX6_walk_100 rfl (lv_at hl 0 rfl) ?_
    refine g_get (a := a_t) S hK Wd iX6_walk_X6 0 rfl rfl 1 rfl rfl kX6_walk_5 rfl dX6_walk_101 ?_
    refine lv_iload S.1 S.2.1 dX6_walk_104 (lv_at hl 5 rfl) ?_
    refine lv_iload S.1 S.2.1 dX6_walk_106 (lv_at hl 6 rfl) ?_
    obtain ⟨h10, hf⟩ := g_gi hF hf
    refine g_iast (a := a_t_leading) (ws' := (wX6_walk cI cB cZ cM cJ cK  a_t a_t_told a_t_leading a_t_ended a_t_march a_p1 a_p1_first a_p1_second a_p1_hours a_p1_home a_p1_feet a_p1_far r_p1_far a_p2 t_size t_homes t_told (upd t_leading x6.toNatClampNeg x7) t_ended t_march_at t_march_hour t_march_fines t_march_led t_march_taken t_march_shut p1_corners p1_streets p1_leaders p1_first p1_second p1_hours p1_home p1_feet p1_far p2_at p2_hour p2_fines p2_led p2_taken p2_shut)) S hK Wd 2 0 rfl rfl h10 dX6_walk_108 rfl (fun H locs Wd => ?_)
    refine lv_aload_n S.1 S.2.1 dX6_walk_109 rfl (lv_at hl 0 rfl) ?_
    refine g_get (a := a_t) S hK Wd iX6_walk_X6 0 rfl rfl 2 rfl rfl kX6_walk_6 rfl dX6_walk_110 ?_
    refine lv_iload S.1 S.2.1 dX6_walk_113 (lv_at hl 5 rfl) ?_
    refine lv_aload_n S.1 S.2.1 dX6_walk_115 rfl (lv_at hl 0 rfl) ?_
    refine g_get (a := a_t) S hK Wd iX6_walk_X6 0 rfl rfl 3 rfl rfl kX6_walk_1 rfl dX6_walk_116 ?_
    refine g_get (a := a_t_march) S hK Wd iX6_walk_X3 4 rfl rfl 0 rfl rfl kX6_walk_7 rfl dX6_walk_119 ?_
    obtain ⟨h11, hf⟩ := g_gi hF hf
    refine g_iast (a := a_t_ended) (ws' := (wX6_walk cI cB cZ cM cJ cK  a_t a_t_told a_t_leading a_t_ended a_t_march a_p1 a_p1_first a_p1_second a_p1_hours a_p1_home a_p1_feet a_p1_far r_p1_far a_p2 t_size t_homes t_told (upd t_leading x6.toNatClampNeg x7) (upd t_ended x6.toNatClampNeg t_march_at) t_march_at t_march_hour t_march_fines t_march_led t_march_taken t_march_shut p1_corners p1_streets p1_leaders p1_first p1_second p1_hours p1_home p1_feet p1_far p2_at p2_hour p2_fines p2_led p2_taken p2_shut)) S hK Wd 3 0 rfl rfl h11 dX6_walk_122 rfl (fun H locs Wd => ?_)
    refine lv_aload_n S.1 S.2.1 dX6_walk_123 rfl (lv_at hl 0 rfl) ?_
    refine g_get (a := a_t) S hK Wd iX6_walk_X6 0 rfl rfl 3 rfl rfl kX6_walk_1 rfl dX6_walk_124 ?_
    refine g_get (a := a_t_march) S hK Wd iX6_walk_X3 4 rfl rfl 0 rfl rfl kX6_walk_7 rfl dX6_walk_127 ?_
    refine lv_aload_n S.1 S.2.1 dX6_walk_130 rfl (lv_at hl 1 rfl) ?_
    refine g_get (a := a_p1) S hK Wd iX6_walk_X0 5 rfl rfl 6 rfl rfl kX6_walk_8 rfl dX6_walk_131 ?_
    refine lv_iload S.1 S.2.1 dX6_walk_134 (lv_at hl 6 rfl) ?_
    obtain ⟨h12, hf⟩ := g_gi hF hf
    refine g_iald (a := a_p1_home) S hK Wd 9 0 rfl rfl h12 dX6_walk_136 ?_
    refine lv_icmp_ne (tgt := 150) S.1 S.2.1 dX6_walk_137 rfl (fun c13 => ?_) (fun c13 => ?_)
    · have hf := g_ifn hf c13
      exact b150 K29 hK29 t_homes (upd t_leading x6.toNatClampNeg x7) (upd t_ended x6.toNatClampNeg t_march_at) t_march_at t_march_hour t_march_fines t_march_led t_march_taken t_march_shut x3 x4 x5 x6 _ _ _ Wd (lv_sub hl [0, 1, 2, 3, 4, 5] rfl) hf
    · have hf := g_if hf c13
      refine lv_aload_n S.1 S.2.1 dX6_walk_140 rfl (lv_at hl 0 rfl) ?_
      refine lv_dup S.1 S.2.1 dX6_walk_141 rfl ?_
      refine g_get (a := a_t) S hK Wd iX6_walk_X6 0 rfl rfl 5 rfl rfl kX6_walk_2 rfl dX6_walk_142 ?_
      refine lv_iconst (v := 1) S.1 S.2.1 dX6_walk_145 (by decide) ?_
      refine lv_iadd S.1 S.2.1 dX6_walk_146 ?_
      refine g_put (a := a_t) (ws' := (wX6_walk cI cB cZ cM cJ cK  a_t a_t_told a_t_leading a_t_ended a_t_march a_p1 a_p1_first a_p1_second a_p1_hours a_p1_home a_p1_feet a_p1_far r_p1_far a_p2 t_size (t_homes + (1 : Int32)) t_told (upd t_leading x6.toNatClampNeg x7) (upd t_ended x6.toNatClampNeg t_march_at) t_march_at t_march_hour t_march_fines t_march_led t_march_taken t_march_shut p1_corners p1_streets p1_leaders p1_first p1_second p1_hours p1_home p1_feet p1_far p2_at p2_hour p2_fines p2_led p2_taken p2_shut)) S hK Wd iX6_walk_X6 tyX6 tyX6_ok nmX6 0 rfl rfl 5 rfl rfl kX6_walk_2 rfl rfl rfl dX6_walk_147 rfl (fun H locs Wd => ?_)
      exact b150 K29 hK29 (t_homes + (1 : Int32)) (upd t_leading x6.toNatClampNeg x7) (upd t_ended x6.toNatClampNeg t_march_at) t_march_at t_march_hour t_march_fines t_march_led t_march_taken t_march_shut x3 x4 x5 x6 _ _ _ Wd (lv_sub hl [0, 1, 2, 3, 4, 5] rfl) hf
  have b98 : ∀ (K29 : Int32 → (Nat → Int32) → (Nat → Int32) → Int32 → Int32 → Int32 → Int32 → Int32 → Int32 → Int32 → Int32 → Int32 → Int32 → Option (Int32 × (Nat → Int32) × (Nat → Int32) × Int32 × Int32 × Int32 × Int32 × Int32 × Int32)) (hK29 : ∀ (t_homes : Int32) (t_leading t_ended : Nat → Int32) (t_march_at t_march_hour t_march_fines t_march_led t_march_taken t_march_shut x3 x4 x5 x6 : Int32) (H1 : Heap) (locs1 : List Loc) (ls1 : Array Slot), gw D A s.heap (wX6_walk cI cB cZ cM cJ cK  a_t a_t_told a_t_leading a_t_ended a_t_march a_p1 a_p1_first a_p1_second a_p1_hours a_p1_home a_p1_feet a_p1_far r_p1_far a_p2 t_size t_homes t_told t_leading t_ended t_march_at t_march_hour t_march_fines t_march_led t_march_taken t_march_shut p1_corners p1_streets p1_leaders p1_first p1_second p1_hours p1_home p1_feet p1_far p2_at p2_hour p2_fines p2_led p2_taken p2_shut) H1 locs1 → lv_has ls1 8 [(0, .ref a_t), (1, .ref a_p1), (3, .int x3), (4, .int x4), (5, .int x5), (6, .int x6)] → F = K29 t_homes t_leading t_ended t_march_at t_march_hour t_march_fines t_march_led t_march_taken t_march_shut x3 x4 x5 x6 → W p l e rmX6_walk s m [.ref a_t, .ref a_p1, .ref a_p2].toArray below meth c H1 locs1 0 0 (MQ below (gQ F (fun _u : Int32 × (Nat → Int32) × (Nat → Int32) × Int32 × Int32 × Int32 × Int32 × Int32 × Int32 => none) (fun _u : Int32 × (Nat → Int32) × (Nat → Int32) × Int32 × Int32 × Int32 × Int32 × Int32 × Int32 => (wX6_walk cI cB cZ cM cJ cK  a_t a_t_told a_t_leading a_t_ended a_t_march a_p1 a_p1_first a_p1_second a_p1_hours a_p1_home a_p1_feet a_p1_far r_p1_far a_p2 t_size _u.1 t_told _u.2.1 _u.2.2.1 _u.2.2.2.1 _u.2.2.2.2.1 _u.2.2.2.2.2.1 _u.2.2.2.2.2.2.1 _u.2.2.2.2.2.2.2.1 _u.2.2.2.2.2.2.2.2 p1_corners p1_streets p1_leaders p1_first p1_second p1_hours p1_home p1_feet p1_far p2_at p2_hour p2_fines p2_led p2_taken p2_shut)) D A) [.ref a_t, .ref a_p1, .ref a_p2].toArray s 0 0 A) (F0 m 29 ls1 [])) , ∀ (t_homes : Int32) (t_leading t_ended : Nat → Int32) (t_march_at t_march_hour t_march_fines t_march_led t_march_taken t_march_shut x3 x4 x6 x7 y0 : Int32) (H1 : Heap) (locs1 : List Loc) (ls1 : Array Slot), gw D A s.heap (wX6_walk cI cB cZ cM cJ cK  a_t a_t_told a_t_leading a_t_ended a_t_march a_p1 a_p1_first a_p1_second a_p1_hours a_p1_home a_p1_feet a_p1_far r_p1_far a_p2 t_size t_homes t_told t_leading t_ended t_march_at t_march_hour t_march_fines t_march_led t_march_taken t_march_shut p1_corners p1_streets p1_leaders p1_first p1_second p1_hours p1_home p1_feet p1_far p2_at p2_hour p2_fines p2_led p2_taken p2_shut) H1 locs1 → lv_has ls1 8 [(0, .ref a_t), (1, .ref a_p1), (3, .int x3), (4, .int x4), (6, .int x6), (7, .int x7)] → F = fX6_walk_b98 N t_size t_told p1_streets p1_leaders p1_first p1_second p1_hours p1_home p1_feet p1_far p2_at p2_hour p2_fines p2_led p2_taken p2_shut K29 t_homes t_leading t_ended t_march_at t_march_hour t_march_fines t_march_led t_march_taken t_march_shut x3 x4 x6 x7 y0 → W p l e rmX6_walk s m [.ref a_t, .ref a_p1, .ref a_p2].toArray below meth c H1 locs1 0 0 (MQ below (gQ F (fun _u : Int32 × (Nat → Int32) × (Nat → Int32) × Int32 × Int32 × Int32 × Int32 × Int32 × Int32 => none) (fun _u : Int32 × (Nat → Int32) × (Nat → Int32) × Int32 × Int32 × Int32 × Int32 × Int32 × Int32 => (wX6_walk cI cB cZ cM cJ cK  a_t a_t_told a_t_leading a_t_ended a_t_march a_p1 a_p1_first a_p1_second a_p1_hours a_p1_home a_p1_feet a_p1_far r_p1_far a_p2 t_size _u.1 t_told _u.2.1 _u.2.2.1 _u.2.2.2.1 _u.2.2.2.2.1 _u.2.2.2.2.2.1 _u.2.2.2.2.2.2.1 _u.2.2.2.2.2.2.2.1 _u.2.2.2.2.2.2.2.2 p1_corners p1_streets p1_leaders p1_first p1_second p1_hours p1_home p1_feet p1_far p2_at p2_hour p2_fines p2_led p2_taken p2_shut)) D A) [.ref a_t, .ref a_p1, .ref a_p2].toArray s 0 0 A) (F0 m 98 ls1 [.int y0]) := by
    intro K29 hK29 t_homes t_leading t_ended t_march_at t_march_hour t_march_fines t_march_led t_march_taken t_march_shut x3 x4 x6 x7 y0 H locs ls Wd hl hf
    refine lv_istore (lv' := [(5, .int y0), (0, .ref a_t), (1, .ref a_p1), (3, .int x3), (4, .int x4), (6, .int x6), (7, .int x7)]) S.1 S.2.1 dX6_walk_98 hl (by decide) rfl (fun ls hl => ?_)
    exact b100 K29 hK29 t_homes t_leading t_ended t_march_at t_march_hour t_march_fines t_march_led t_march_taken t_march_shut x3 x4 y0 x6 x7 _ _ _ Wd (lv_sub hl [1, 2, 3, 4, 0, 5, 6] rfl) hf
  have b75 : ∀ (K29 : Int32 → (Nat → Int32) → (Nat → Int32) → Int32 → Int32 → Int32 → Int32 → Int32 → Int32 → Int32 → Int32 → Int32 → Int32 → Option (Int32 × (Nat → Int32) × (Nat → Int32) × Int32 × Int32 × Int32 × Int32 × Int32 × Int32)) (hK29 : ∀ (t_homes : Int32) (t_leading t_ended : Nat → Int32) (t_march_at t_march_hour t_march_fines t_march_led t_march_taken t_march_shut x3 x4 x5 x6 : Int32) (H1 : Heap) (locs1 : List Loc) (ls1 : Array Slot), gw D A s.heap (wX6_walk cI cB cZ cM cJ cK  a_t a_t_told a_t_leading a_t_ended a_t_march a_p1 a_p1_first a_p1_second a_p1_hours a_p1_home a_p1_feet a_p1_far r_p1_far a_p2 t_size t_homes t_told t_leading t_ended t_march_at t_march_hour t_march_fines t_march_led t_march_taken t_march_shut p1_corners p1_streets p1_leaders p1_first p1_second p1_hours p1_home p1_feet p1_far p2_at p2_hour p2_fines p2_led p2_taken p2_shut) H1 locs1 → lv_has ls1 8 [(0, .ref a_t), (1, .ref a_p1), (3, .int x3), (4, .int x4), (5, .int x5), (6, .int x6)] → F = K29 t_homes t_leading t_ended t_march_at t_march_hour t_march_fines t_march_led t_march_taken t_march_shut x3 x4 x5 x6 → W p l e rmX6_walk s m [.ref a_t, .ref a_p1, .ref a_p2].toArray below meth c H1 locs1 0 0 (MQ below (gQ F (fun _u : Int32 × (Nat → Int32) × (Nat → Int32) × Int32 × Int32 × Int32 × Int32 × Int32 × Int32 => none) (fun _u : Int32 × (Nat → Int32) × (Nat → Int32) × Int32 × Int32 × Int32 × Int32 × Int32 × Int32 => (wX6_walk cI cB cZ cM cJ cK  a_t a_t_told a_t_leading a_t_ended a_t_march a_p1 a_p1_first a_p1_second a_p1_hours a_p1_home a_p1_feet a_p1_far r_p1_far a_p2 t_size _u.1 t_told _u.2.1 _u.2.2.1 _u.2.2.2.1 _u.2.2.2.2.1 _u.2.2.2.2.2.1 _u.2.2.2.2.2.2.1 _u.2.2.2.2.2.2.2.1 _u.2.2.2.2.2.2.2.2 p1_corners p1_streets p1_leaders p1_first p1_second p1_hours p1_home p1_feet p1_far p2_at p2_hour p2_fines p2_led p2_taken p2_shut)) D A) [.ref a_t, .ref a_p1, .ref a_p2].toArray s 0 0 A) (F0 m 29 ls1 [])) , ∀ (t_homes : Int32) (t_leading t_ended : Nat → Int32) (t_march_at t_march_hour t_march_fines t_march_led t_march_taken t_march_shut x3 x4 x5 x6 x7 : Int32) (H1 : Heap) (locs1 : List Loc) (ls1 : Array Slot), gw D A s.heap (wX6_walk cI cB cZ cM cJ cK  a_t a_t_told a_t_leading a_t_ended a_t_march a_p1 a_p1_first a_p1_second a_p1_hours a_p1_home a_p1_feet a_p1_far r_p1_far a_p2 t_size t_homes t_told t_leading t_ended t_march_at t_march_hour t_march_fines t_march_led t_march_taken t_march_shut p1_corners p1_streets p1_leaders p1_first p1_second p1_hours p1_home p1_feet p1_far p2_at p2_hour p2_fines p2_led p2_taken p2_shut) H1 locs1 → lv_has ls1 8 [(0, .ref a_t), (1, .ref a_p1), (3, .int x3), (4, .int x4), (5, .int x5), (6, .int x6), (7, .int x7)] → F = fX6_walk_b75 N t_size t_told p1_streets p1_leaders p1_first p1_second p1_hours p1_home p1_feet p1_far p2_at p2_hour p2_fines p2_led p2_taken p2_shut K29 t_homes t_leading t_ended t_march_at t_march_hour t_march_fines t_march_led t_march_taken t_march_shut x3 x4 x5 x6 x7 → W p l e rmX6_walk s m [.ref a_t, .ref a_p1, .ref a_p2].toArray below meth c H1 locs1 0 0 (MQ below (gQ F (fun _u : Int32 × (Nat → Int32) × (Nat → Int32) × Int32 × Int32 × Int32 × Int32 × Int32 × Int32 => none) (fun _u : Int32 × (Nat → Int32) × (Nat → Int32) × Int32 × Int32 × Int32 × Int32 × Int32 × Int32 => (wX6_walk cI cB cZ cM cJ cK  a_t a_t_told a_t_leading a_t_ended a_t_march a_p1 a_p1_first a_p1_second a_p1_hours a_p1_home a_p1_feet a_p1_far r_p1_far a_p2 t_size _u.1 t_told _u.2.1 _u.2.2.1 _u.2.2.2.1 _u.2.2.2.2.1 _u.2.2.2.2.2.1 _u.2.2.2.2.2.2.1 _u.2.2.2.2.2.2.2.1 _u.2.2.2.2.2.2.2.2 p1_corners p1_streets p1_leaders p1_first p1_second p1_hours p1_home p1_feet p1_far p2_at p2_hour p2_fines p2_led p2_taken p2_shut)) D A) [.ref a_t, .ref a_p1, .ref a_p2].toArray s 0 0 A) (F0 m 75 ls1 []) := by
    intro K29 hK29 t_homes t_leading t_ended t_march_at t_march_hour t_march_fines t_march_led t_march_taken t_march_shut x3 x4 x5 x6 x7 H locs ls Wd hl hf
    refine lv_aload_n S.1 S.2.1 dX6_walk_75 rfl (lv_at hl 0 rfl) ?_
    refine g_get (a := a_t) S hK Wd iX6_walk_X6 0 rfl rfl 3 rfl rfl kX6_walk_1 rfl dX6_walk_76 ?_
    refine lv_aload_n S.1 S.2.1 dX6_walk_79 rfl (lv_at hl 1 rfl) ?_
    refine lv_iload S.1 S.2.1 dX6_walk_80 (lv_at hl 6 rfl) ?_
    obtain ⟨u7, hu7, hf⟩ := g_bind hF hf
    refine g_callV (ws' := (wX6_walk cI cB cZ cM cJ cK  a_t a_t_told a_t_leading a_t_ended a_t_march a_p1 a_p1_first a_p1_second a_p1_hours a_p1_home a_p1_feet a_p1_far r_p1_far a_p2 t_size t_homes t_told t_leading t_ended u7.2.1 u7.2.2.1 u7.2.2.2.1 u7.2.2.2.2.1 u7.2.2.2.2.2 t_march_shut p1_corners p1_streets p1_leaders p1_first p1_second p1_hours p1_home p1_feet p1_far p2_at p2_hour p2_fines p2_led p2_taken p2_shut)) (As := [.ref a_p1, .int x7]) (rest := []) (st1 := [.int u7.1]) S hK hA Wd (c_X3_goBy l D N cI cB cZ cM cJ cK a_t_march a_p1 a_p1_first a_p1_second a_p1_hours a_p1_home a_p1_feet a_p1_far r_p1_far t_march_at t_march_hour t_march_fines t_march_led t_march_taken t_march_shut p1_corners p1_streets p1_leaders p1_first p1_second p1_hours p1_home p1_feet p1_far x7) (cwV 2 S.2.2.2.2 gX6_walk_X3_goBy rfl rfl rfl n_X3_goBy ⟨Nat.le_of_ble_eq_true rfl, Nat.le_of_ble_eq_true rfl⟩) hu7 [4, 5, 6, 7, 8, 9, 10, 11, 12] rfl rfl 0 3 rfl rfl rfl rfl rfl rfl rfl hl.1 rfl (Nat.le_of_ble_eq_true rfl) dX6_walk_82 ⟨Nat.zero_le _, Nat.zero_le _⟩ (fun H locs Wd => ?_)
    refine lv_if_eq (tgt := 100) S.1 S.2.1 dX6_walk_85 rfl (fun c8 => ?_) (fun c8 => ?_)
    · have hf := g_if hf c8
      exact b100 K29 hK29 t_homes t_leading t_ended u7.2.1 u7.2.2.1 u7.2.2.2.1 u7.2.2.2.2.1 u7.2.2.2.2.2 t_march_shut x3 x4 x5 x6 x7 _ _ _ Wd hl hf
    · have hf := g_ifn hf c8
      refine lv_iload S.1 S.2.1 dX6_walk_88 (lv_at hl 4 rfl) ?_
      refine lv_if_ne (tgt := 97) S.1 S.2.1 dX6_walk_90 rfl (fun c9 => ?_) (fun c9 => ?_)
      · have hf := g_ifn hf c9
        refine lv_iconst (v := 0) S.1 S.2.1 dX6_walk_97 (by decide) ?_
        exact b98 K29 hK29 t_homes t_leading t_ended u7.2.1 u7.2.2.1 u7.2.2.2.1 u7.2.2.2.2.1 u7.2.2.2.2.2 t_march_shut x3 x4 x6 x7 (0 : Int32) _ _ _ Wd (lv_sub hl [0, 1, 2, 3, 5, 6] rfl) hf
      · have hf := g_if hf c9
        refine lv_iconst (v := 1) S.1 S.2.1 dX6_walk_93 (by decide) ?_
        refine lv_goto (tgt := 98) S.1 S.2.1 dX6_walk_94 rfl ?_
        exact b98 K29 hK29 t_homes t_leading t_ended u7.2.1 u7.2.2.1 u7.2.2.2.1 u7.2.2.2.2.1 u7.2.2.2.2.2 t_march_shut x3 x4 x6 x7 (1 : Int32) _ _ _ Wd (lv_sub hl [0, 1, 2, 3, 5, 6] rfl) hf
  have b59 : ∀ (K29 : Int32 → (Nat → Int32) → (Nat → Int32) → Int32 → Int32 → Int32 → Int32 → Int32 → Int32 → Int32 → Int32 → Int32 → Int32 → Option (Int32 × (Nat → Int32) × (Nat → Int32) × Int32 × Int32 × Int32 × Int32 × Int32 × Int32)) (hK29 : ∀ (t_homes : Int32) (t_leading t_ended : Nat → Int32) (t_march_at t_march_hour t_march_fines t_march_led t_march_taken t_march_shut x3 x4 x5 x6 : Int32) (H1 : Heap) (locs1 : List Loc) (ls1 : Array Slot), gw D A s.heap (wX6_walk cI cB cZ cM cJ cK  a_t a_t_told a_t_leading a_t_ended a_t_march a_p1 a_p1_first a_p1_second a_p1_hours a_p1_home a_p1_feet a_p1_far r_p1_far a_p2 t_size t_homes t_told t_leading t_ended t_march_at t_march_hour t_march_fines t_march_led t_march_taken t_march_shut p1_corners p1_streets p1_leaders p1_first p1_second p1_hours p1_home p1_feet p1_far p2_at p2_hour p2_fines p2_led p2_taken p2_shut) H1 locs1 → lv_has ls1 8 [(0, .ref a_t), (1, .ref a_p1), (3, .int x3), (4, .int x4), (5, .int x5), (6, .int x6)] → F = K29 t_homes t_leading t_ended t_march_at t_march_hour t_march_fines t_march_led t_march_taken t_march_shut x3 x4 x5 x6 → W p l e rmX6_walk s m [.ref a_t, .ref a_p1, .ref a_p2].toArray below meth c H1 locs1 0 0 (MQ below (gQ F (fun _u : Int32 × (Nat → Int32) × (Nat → Int32) × Int32 × Int32 × Int32 × Int32 × Int32 × Int32 => none) (fun _u : Int32 × (Nat → Int32) × (Nat → Int32) × Int32 × Int32 × Int32 × Int32 × Int32 × Int32 => (wX6_walk cI cB cZ cM cJ cK  a_t a_t_told a_t_leading a_t_ended a_t_march a_p1 a_p1_first a_p1_second a_p1_hours a_p1_home a_p1_feet a_p1_far r_p1_far a_p2 t_size _u.1 t_told _u.2.1 _u.2.2.1 _u.2.2.2.1 _u.2.2.2.2.1 _u.2.2.2.2.2.1 _u.2.2.2.2.2.2.1 _u.2.2.2.2.2.2.2.1 _u.2.2.2.2.2.2.2.2 p1_corners p1_streets p1_leaders p1_first p1_second p1_hours p1_home p1_feet p1_far p2_at p2_hour p2_fines p2_led p2_taken p2_shut)) D A) [.ref a_t, .ref a_p1, .ref a_p2].toArray s 0 0 A) (F0 m 29 ls1 [])) , ∀ (t_homes : Int32) (t_leading t_ended : Nat → Int32) (t_march_at t_march_hour t_march_fines t_march_led t_march_taken t_march_shut x3 x4 x5 x6 y0 : Int32) (H1 : Heap) (locs1 : List Loc) (ls1 : Array Slot), gw D A s.heap (wX6_walk cI cB cZ cM cJ cK  a_t a_t_told a_t_leading a_t_ended a_t_march a_p1 a_p1_first a_p1_second a_p1_hours a_p1_home a_p1_feet a_p1_far r_p1_far a_p2 t_size t_homes t_told t_leading t_ended t_march_at t_march_hour t_march_fines t_march_led t_march_taken t_march_shut p1_corners p1_streets p1_leaders p1_first p1_second p1_hours p1_home p1_feet p1_far p2_at p2_hour p2_fines p2_led p2_taken p2_shut) H1 locs1 → lv_has ls1 8 [(0, .ref a_t), (1, .ref a_p1), (3, .int x3), (4, .int x4), (5, .int x5), (6, .int x6)] → F = fX6_walk_b59 N t_size t_told p1_streets p1_leaders p1_first p1_second p1_hours p1_home p1_feet p1_far p2_at p2_hour p2_fines p2_led p2_taken p2_shut K29 t_homes t_leading t_ended t_march_at t_march_hour t_march_fines t_march_led t_march_taken t_march_shut x3 x4 x5 x6 y0 → W p l e rmX6_walk s m [.ref a_t, .ref a_p1, .ref a_p2].toArray below meth c H1 locs1 0 0 (MQ below (gQ F (fun _u : Int32 × (Nat → Int32) × (Nat → Int32) × Int32 × Int32 × Int32 × Int32 × Int32 × Int32 => none) (fun _u : Int32 × (Nat → Int32) × (Nat → Int32) × Int32 × Int32 × Int32 × Int32 × Int32 × Int32 => (wX6_walk cI cB cZ cM cJ cK  a_t a_t_told a_t_leading a_t_ended a_t_march a_p1 a_p1_first a_p1_second a_p1_hours a_p1_home a_p1_feet a_p1_far r_p1_far a_p2 t_size _u.1 t_told _u.2.1 _u.2.2.1 _u.2.2.2.1 _u.2.2.2.2.1 _u.2.2.2.2.2.1 _u.2.2.2.2.2.2.1 _u.2.2.2.2.2.2.2.1 _u.2.2.2.2.2.2.2.2 p1_corners p1_streets p1_leaders p1_first p1_second p1_hours p1_home p1_feet p1_far p2_at p2_hour p2_fines p2_led p2_taken p2_shut)) D A) [.ref a_t, .ref a_p1, .ref a_p2].toArray s 0 0 A) (F0 m 59 ls1 [.int y0]) := by
    intro K29 hK29 t_homes t_leading t_ended t_march_at t_march_hour t_march_fines t_march_led t_march_taken t_march_shut x3 x4 x5 x6 y0 H locs ls Wd hl hf
    refine lv_istore (lv' := [(7, .int y0), (0, .ref a_t), (1, .ref a_p1), (3, .int x3), (4, .int x4), (5, .int x5), (6, .int x6)]) S.1 S.2.1 dX6_walk_59 hl (by decide) rfl (fun ls hl => ?_)
    refine lv_iload S.1 S.2.1 dX6_walk_61 (lv_at hl 5 rfl) ?_
    refine lv_if_eq (tgt := 72) S.1 S.2.1 dX6_walk_63 rfl (fun c6 => ?_) (fun c6 => ?_)
    · have hf := g_if hf c6
      refine lv_iinc (v := (x3 + (1 : Int32))) (lv' := [(3, .int (x3 + (1 : Int32))), (7, .int y0), (0, .ref a_t), (1, .ref a_p1), (4, .int x4), (5, .int x5), (6, .int x6)]) S.1 S.2.1 dX6_walk_72 hl (k := 3) rfl rfl (by decide) rfl (fun ls hl => ?_)
      exact b75 K29 hK29 t_homes t_leading t_ended t_march_at t_march_hour t_march_fines t_march_led t_march_taken t_march_shut (x3 + (1 : Int32)) x4 x5 x6 y0 _ _ _ Wd (lv_sub hl [2, 3, 0, 4, 5, 6, 1] rfl) hf
    · have hf := g_ifn hf c6
      refine lv_iinc (v := (x4 + (-1 : Int32))) (lv' := [(4, .int (x4 + (-1 : Int32))), (7, .int y0), (0, .ref a_t), (1, .ref a_p1), (3, .int x3), (5, .int x5), (6, .int x6)]) S.1 S.2.1 dX6_walk_66 hl (k := 4) rfl rfl (by decide) rfl (fun ls hl => ?_)
      refine lv_goto (tgt := 75) S.1 S.2.1 dX6_walk_69 rfl ?_
      exact b75 K29 hK29 t_homes t_leading t_ended t_march_at t_march_hour t_march_fines t_march_led t_march_taken t_march_shut x3 (x4 + (-1 : Int32)) x5 x6 y0 _ _ _ Wd (lv_sub hl [2, 3, 4, 0, 5, 6, 1] rfl) hf
  have b29 : ∀ (n : Nat), ∀ (t_homes : Int32) (t_leading t_ended : Nat → Int32) (t_march_at t_march_hour t_march_fines t_march_led t_march_taken t_march_shut x3 x4 x5 x6 : Int32) (H1 : Heap) (locs1 : List Loc) (ls1 : Array Slot), gw D A s.heap (wX6_walk cI cB cZ cM cJ cK  a_t a_t_told a_t_leading a_t_ended a_t_march a_p1 a_p1_first a_p1_second a_p1_hours a_p1_home a_p1_feet a_p1_far r_p1_far a_p2 t_size t_homes t_told t_leading t_ended t_march_at t_march_hour t_march_fines t_march_led t_march_taken t_march_shut p1_corners p1_streets p1_leaders p1_first p1_second p1_hours p1_home p1_feet p1_far p2_at p2_hour p2_fines p2_led p2_taken p2_shut) H1 locs1 → lv_has ls1 8 [(0, .ref a_t), (1, .ref a_p1), (3, .int x3), (4, .int x4), (5, .int x5), (6, .int x6)] → F = fX6_walk_b29 N t_size t_told p1_streets p1_leaders p1_first p1_second p1_hours p1_home p1_feet p1_far p2_at p2_hour p2_fines p2_led p2_taken p2_shut  n t_homes t_leading t_ended t_march_at t_march_hour t_march_fines t_march_led t_march_taken t_march_shut x3 x4 x5 x6 → W p l e rmX6_walk s m [.ref a_t, .ref a_p1, .ref a_p2].toArray below meth c H1 locs1 0 0 (MQ below (gQ F (fun _u : Int32 × (Nat → Int32) × (Nat → Int32) × Int32 × Int32 × Int32 × Int32 × Int32 × Int32 => none) (fun _u : Int32 × (Nat → Int32) × (Nat → Int32) × Int32 × Int32 × Int32 × Int32 × Int32 × Int32 => (wX6_walk cI cB cZ cM cJ cK  a_t a_t_told a_t_leading a_t_ended a_t_march a_p1 a_p1_first a_p1_second a_p1_hours a_p1_home a_p1_feet a_p1_far r_p1_far a_p2 t_size _u.1 t_told _u.2.1 _u.2.2.1 _u.2.2.2.1 _u.2.2.2.2.1 _u.2.2.2.2.2.1 _u.2.2.2.2.2.2.1 _u.2.2.2.2.2.2.2.1 _u.2.2.2.2.2.2.2.2 p1_corners p1_streets p1_leaders p1_first p1_second p1_hours p1_home p1_feet p1_far p2_at p2_hour p2_fines p2_led p2_taken p2_shut)) D A) [.ref a_t, .ref a_p1, .ref a_p2].toArray s 0 0 A) (F0 m 29 ls1 []) := by
    intro  n
    induction n with
    | zero => intro t_homes t_leading t_ended t_march_at t_march_hour t_march_fines t_march_led t_march_taken t_march_shut x3 x4 x5 x6 H locs ls Wd hl hf; exact absurd hf hF
    | succ n ih =>
      intro t_homes t_leading t_ended t_march_at t_march_hour t_march_fines t_march_led t_march_taken t_march_shut x3 x4 x5 x6 H locs ls Wd hl hf
      refine lv_iload S.1 S.2.1 dX6_walk_29 (lv_at hl 5 rfl) ?_
      refine lv_aload_n S.1 S.2.1 dX6_walk_31 rfl (lv_at hl 0 rfl) ?_
      refine g_get (a := a_t) S hK Wd iX6_walk_X6 0 rfl rfl 4 rfl rfl kX6_walk_3 rfl dX6_walk_32 ?_
      refine lv_icmp_ge (tgt := 156) S.1 S.2.1 dX6_walk_35 rfl (fun c2 => ?_) (fun c2 => ?_)
      · have hf := g_if hf c2
        exact g_vret S Wd hr hlk dX6_walk_156 (t_homes, t_leading, t_ended, t_march_at, t_march_hour, t_march_fines, t_march_led, t_march_taken, t_march_shut) hf rfl rfl
      · have hf := g_ifn hf c2
        refine lv_iload S.1 S.2.1 dX6_walk_38 (lv_at hl 4 rfl) ?_
        refine lv_if_eq (tgt := 53) S.1 S.2.1 dX6_walk_40 rfl (fun c3 => ?_) (fun c3 => ?_)
        · have hf := g_if hf c3
          refine lv_aload_n S.1 S.2.1 dX6_walk_53 rfl (lv_at hl 0 rfl) ?_
          refine g_get (a := a_t) S hK Wd iX6_walk_X6 0 rfl rfl 0 rfl rfl kX6_walk_4 rfl dX6_walk_54 ?_
          refine lv_iload_n S.1 S.2.1 dX6_walk_57 rfl (lv_at hl 2 rfl) ?_
          obtain ⟨h4, hf⟩ := g_gi hF hf
          refine g_iald (a := a_t_told) S hK Wd 1 0 rfl rfl h4 dX6_walk_58 ?_
          exact b59 (fun t_homes t_leading t_ended t_march_at t_march_hour t_march_fines t_march_led t_march_taken t_march_shut x3 x4 x5 x6 => fX6_walk_b29 N t_size t_told p1_streets p1_leaders p1_first p1_second p1_hours p1_home p1_feet p1_far p2_at p2_hour p2_fines p2_led p2_taken p2_shut n t_homes t_leading t_ended t_march_at t_march_hour t_march_fines t_march_led t_march_taken t_march_shut x3 x4 x5 x6) ih t_homes t_leading t_ended t_march_at t_march_hour t_march_fines t_march_led t_march_taken t_march_shut x3 x4 x5 x6 (t_told x3.toNatClampNeg) _ _ _ Wd hl hf
        · have hf := g_ifn hf c3
          refine lv_aload_n S.1 S.2.1 dX6_walk_43 rfl (lv_at hl 0 rfl) ?_
          refine g_get (a := a_t) S hK Wd iX6_walk_X6 0 rfl rfl 0 rfl rfl kX6_walk_4 rfl dX6_walk_44 ?_
          refine lv_iload S.1 S.2.1 dX6_walk_47 (lv_at hl 3 rfl) ?_
          obtain ⟨h5, hf⟩ := g_gi hF hf
          refine g_iald (a := a_t_told) S hK Wd 1 0 rfl rfl h5 dX6_walk_49 ?_
          refine lv_goto (tgt := 59) S.1 S.2.1 dX6_walk_50 rfl ?_
          exact b59 (fun t_homes t_leading t_ended t_march_at t_march_hour t_march_fines t_march_led t_march_taken t_march_shut x3 x4 x5 x6 => fX6_walk_b29 N t_size t_told p1_streets p1_leaders p1_first p1_second p1_hours p1_home p1_feet p1_far p2_at p2_hour p2_fines p2_led p2_taken p2_shut n t_homes t_leading t_ended t_march_at t_march_hour t_march_fines t_march_led t_march_taken t_march_shut x3 x4 x5 x6) ih t_homes t_leading t_ended t_march_at t_march_hour t_march_fines t_march_led t_march_taken t_march_shut x3 x4 x5 x6 (t_told x4.toNatClampNeg) _ _ _ Wd hl hf
  refine lv_aload_n S.1 S.2.1 dX6_walk_0 rfl (lv_at hl 0 rfl) ?_
  refine g_get (a := a_t) S hK Wd iX6_walk_X6 0 rfl rfl 3 rfl rfl kX6_walk_1 rfl dX6_walk_1 ?_
  refine lv_aload_n S.1 S.2.1 dX6_walk_4 rfl (lv_at hl 2 rfl) ?_
  obtain ⟨u1, hu1, hf⟩ := g_bind hF hf
  refine g_callV (ws' := (wX6_walk cI cB cZ cM cJ cK  a_t a_t_told a_t_leading a_t_ended a_t_march a_p1 a_p1_first a_p1_second a_p1_hours a_p1_home a_p1_feet a_p1_far r_p1_far a_p2 t_size t_homes t_told t_leading t_ended u1.1 u1.2.1 u1.2.2.1 u1.2.2.2.1 u1.2.2.2.2.1 u1.2.2.2.2.2 p1_corners p1_streets p1_leaders p1_first p1_second p1_hours p1_home p1_feet p1_far p2_at p2_hour p2_fines p2_led p2_taken p2_shut)) (As := [.ref a_p2]) (rest := []) (st1 := []) S hK hA Wd (c_X3_become l D N cI cB cZ cM cJ cK a_t_march a_p2 t_march_at t_march_hour t_march_fines t_march_led t_march_taken t_march_shut p2_at p2_hour p2_fines p2_led p2_taken p2_shut) (cwV 1 S.2.2.2.2 gX6_walk_X3_become rfl rfl rfl n_X3_become ⟨Nat.le_of_ble_eq_true rfl, Nat.le_of_ble_eq_true rfl⟩) hu1 [4, 13] rfl rfl 0 3 rfl rfl rfl rfl rfl rfl rfl hl.1 rfl (Nat.le_of_ble_eq_true rfl) dX6_walk_5 ⟨Nat.zero_le _, Nat.zero_le _⟩ (fun H locs Wd => ?_)
  refine lv_aload_n S.1 S.2.1 dX6_walk_8 rfl (lv_at hl 0 rfl) ?_
  refine lv_iconst (v := 0) S.1 S.2.1 dX6_walk_9 (by decide) ?_
  refine g_put (a := a_t) (ws' := (wX6_walk cI cB cZ cM cJ cK  a_t a_t_told a_t_leading a_t_ended a_t_march a_p1 a_p1_first a_p1_second a_p1_hours a_p1_home a_p1_feet a_p1_far r_p1_far a_p2 t_size (0 : Int32) t_told t_leading t_ended u1.1 u1.2.1 u1.2.2.1 u1.2.2.2.1 u1.2.2.2.2.1 u1.2.2.2.2.2 p1_corners p1_streets p1_leaders p1_first p1_second p1_hours p1_home p1_feet p1_far p2_at p2_hour p2_fines p2_led p2_taken p2_shut)) S hK Wd iX6_walk_X6 tyX6 tyX6_ok nmX6 0 rfl rfl 5 rfl rfl kX6_walk_2 rfl rfl rfl dX6_walk_10 rfl (fun H locs Wd => ?_)
  refine lv_iconst (v := 0) S.1 S.2.1 dX6_walk_13 (by decide) ?_
  refine lv_istore_n (lv' := [(3, .int (0 : Int32)), (0, .ref a_t), (1, .ref a_p1), (2, .ref a_p2)]) S.1 S.2.1 dX6_walk_14 rfl hl (by decide) rfl (fun ls hl => ?_)
  refine lv_aload_n S.1 S.2.1 dX6_walk_15 rfl (lv_at hl 1 rfl) ?_
  refine g_get (a := a_t) S hK Wd iX6_walk_X6 0 rfl rfl 4 rfl rfl kX6_walk_3 rfl dX6_walk_16 ?_
  refine lv_iconst (v := 1) S.1 S.2.1 dX6_walk_19 (by decide) ?_
  refine lv_isub S.1 S.2.1 dX6_walk_20 ?_
  refine lv_istore (lv' := [(4, .int (t_size - (1 : Int32))), (3, .int (0 : Int32)), (0, .ref a_t), (1, .ref a_p1), (2, .ref a_p2)]) S.1 S.2.1 dX6_walk_21 hl (by decide) rfl (fun ls hl => ?_)
  refine lv_iconst (v := 0) S.1 S.2.1 dX6_walk_23 (by decide) ?_
  refine lv_istore (lv' := [(5, .int (0 : Int32)), (4, .int (t_size - (1 : Int32))), (3, .int (0 : Int32)), (0, .ref a_t), (1, .ref a_p1), (2, .ref a_p2)]) S.1 S.2.1 dX6_walk_24 hl (by decide) rfl (fun ls hl => ?_)
  refine lv_iconst (v := 0) S.1 S.2.1 dX6_walk_26 (by decide) ?_
  refine lv_istore (lv' := [(6, .int (0 : Int32)), (5, .int (0 : Int32)), (4, .int (t_size - (1 : Int32))), (3, .int (0 : Int32)), (0, .ref a_t), (1, .ref a_p1), (2, .ref a_p2)]) S.1 S.2.1 dX6_walk_27 hl (by decide) rfl (fun ls hl => ?_)
  exact b29  N (0 : Int32) t_leading t_ended u1.1 u1.2.1 u1.2.2.1 u1.2.2.2.1 u1.2.2.2.2.1 u1.2.2.2.2.2 (0 : Int32) (t_size - (1 : Int32)) (0 : Int32) (0 : Int32) _ _ _ Wd (lv_sub hl [4, 5, 3, 2, 1, 0] rfl) hf
def wX6_leaderAt (cI cB cZ cM cJ cK : ClassId) (a_t a_t_told a_t_leading a_t_ended a_t_march : Nat) (t_size t_homes : Int32) (t_leading : Nat → Int32) : List va_W := [[(a_t, .inr (6, [.ref a_t_told, .ref a_t_leading, .ref a_t_ended, .ref a_t_march, .int t_size, .int t_homes]))], [(a_t_leading, .inl (cI, 6, .inl t_leading))]]
def rmX6_leaderAt : Room := { frames := 0, cells := 0, slots := 0, locals := 0 }
theorem kX6_leaderAt_1 : Cond.fieldLink RX6 28 "FeastMarch$Row" "size" "I" ∈ wsX6_leaderAt := List.mem_of_getElem? (i := 1) rfl
theorem kX6_leaderAt_2 : Cond.fieldLink RX6 15 "FeastMarch$Row" "leading" "[I" ∈ wsX6_leaderAt := List.mem_of_getElem? (i := 2) rfl
theorem iX6_leaderAt_X6 : ∀ w ∈ wsX60, w ∈ wsX6_leaderAt := fun _ h => List.mem_cons_of_mem _ (List.mem_append_right _ h)
theorem n_X6_leaderAt : yX6_leaderAt.cls = RX6 ∧ yX6_leaderAt.cls ≠ "java/lang/invoke/MethodHandle" ∧ yX6_leaderAt.cls ≠ "java/lang/invoke/VarHandle" ∧ (parseMethodDescriptor yX6_leaderAt.desc).map (fun d => d.parameters.length) = some 1 := by decide +kernel
set_option maxHeartbeats 4000000 in
set_option maxRecDepth 100000 in
theorem c_X6_leaderAt (l : Launch) (D : va_G) (N : Nat) (cI cB cZ cM cJ cK : ClassId) (a_t a_t_told a_t_leading a_t_ended a_t_march : Nat) (t_size t_homes : Int32) (t_leading : Nat → Int32) (x1 : Int32) : gM l yX6_leaderAt wsX6_leaderAt rmX6_leaderAt D (gT cI cB cZ cM cJ cK) (wX6_leaderAt cI cB cZ cM cJ cK  a_t a_t_told a_t_leading a_t_ended a_t_march t_size t_homes t_leading) [.ref a_t, .int x1] (fX6_leaderAt N t_size t_leading x1) (fun _u : Int32 => some (.int _u)) (fun _u : Int32 => (wX6_leaderAt cI cB cZ cM cJ cK  a_t a_t_told a_t_leading a_t_ended a_t_march t_size t_homes t_leading)) := by
  refine g_start (cc := cX6_leaderAt) (maxL := 2) (ret := (some .int)) (by decide) rfl (Nat.le_of_ble_eq_true rfl) ?_
  intro F hf hF p e s m below meth c A ls S hK hA Wd hr hlk hnm hl
  refine lv_iload_n S.1 S.2.1 dX6_leaderAt_0 rfl (lv_at hl 1 rfl) ?_
  refine lv_if_lt (tgt := 21) S.1 S.2.1 dX6_leaderAt_1 rfl (fun c1 => ?_) (fun c1 => ?_)
  · have hf := g_if hf c1
    refine lv_bipush (v := (-9)) S.1 S.2.1 dX6_leaderAt_21 (by decide) ?_
    exact g_iret S Wd hr hlk dX6_leaderAt_23 (-9 : Int32) hf rfl rfl
  · have hf := g_ifn hf c1
    refine lv_iload_n S.1 S.2.1 dX6_leaderAt_4 rfl (lv_at hl 1 rfl) ?_
    refine lv_aload_n S.1 S.2.1 dX6_leaderAt_5 rfl (lv_at hl 0 rfl) ?_
    refine g_get (a := a_t) S hK Wd iX6_leaderAt_X6 0 rfl rfl 4 rfl rfl kX6_leaderAt_1 rfl dX6_leaderAt_6 ?_
    refine lv_icmp_ge (tgt := 21) S.1 S.2.1 dX6_leaderAt_9 rfl (fun c2 => ?_) (fun c2 => ?_)
    · have hf := g_if hf c2
      refine lv_bipush (v := (-9)) S.1 S.2.1 dX6_leaderAt_21 (by decide) ?_
      exact g_iret S Wd hr hlk dX6_leaderAt_23 (-9 : Int32) hf rfl rfl
    · have hf := g_ifn hf c2
      refine lv_aload_n S.1 S.2.1 dX6_leaderAt_12 rfl (lv_at hl 0 rfl) ?_
      refine g_get (a := a_t) S hK Wd iX6_leaderAt_X6 0 rfl rfl 1 rfl rfl kX6_leaderAt_2 rfl dX6_leaderAt_13 ?_
      refine lv_iload_n S.1 S.2.1 dX6_leaderAt_16 rfl (lv_at hl 1 rfl) ?_
      obtain ⟨h3, hf⟩ := g_gi hF hf
      refine g_iald (a := a_t_leading) S hK Wd 1 0 rfl rfl h3 dX6_leaderAt_17 ?_
      refine lv_goto (tgt := 23) S.1 S.2.1 dX6_leaderAt_18 rfl ?_
      exact g_iret S Wd hr hlk dX6_leaderAt_23 (t_leading x1.toNatClampNeg) hf rfl rfl
def wX7_add (cI cB cZ cM cJ cK : ClassId) (a_t a_t_as a_t_corner : Nat) (t_size : Int32) (t_as t_corner : Nat → Int32) : List va_W := [[(a_t, .inr (7, [.ref a_t_as, .ref a_t_corner, .int t_size]))], [(a_t_as, .inl (cI, 6, .inl t_as))], [(a_t_corner, .inl (cI, 6, .inl t_corner))]]
def rmX7_add : Room := { frames := 0, cells := 0, slots := 0, locals := 0 }
theorem kX7_add_1 : Cond.fieldLink RX7 18 "FeastMarch$Sights" "size" "I" ∈ wsX7_add := List.mem_of_getElem? (i := 1) rfl
theorem kX7_add_2 : Cond.fieldLink RX7 9 "FeastMarch$Sights" "as" "[I" ∈ wsX7_add := List.mem_of_getElem? (i := 2) rfl
theorem kX7_add_3 : Cond.fieldLink RX7 15 "FeastMarch$Sights" "corner" "[I" ∈ wsX7_add := List.mem_of_getElem? (i := 3) rfl
theorem iX7_add_X7 : ∀ w ∈ wsX70, w ∈ wsX7_add := fun _ h => List.mem_cons_of_mem _ (List.mem_append_right _ h)
theorem n_X7_add : yX7_add.cls = RX7 ∧ yX7_add.cls ≠ "java/lang/invoke/MethodHandle" ∧ yX7_add.cls ≠ "java/lang/invoke/VarHandle" ∧ (parseMethodDescriptor yX7_add.desc).map (fun d => d.parameters.length) = some 2 := by decide +kernel
set_option maxHeartbeats 4000000 in
set_option maxRecDepth 100000 in
theorem c_X7_add (l : Launch) (D : va_G) (N : Nat) (cI cB cZ cM cJ cK : ClassId) (a_t a_t_as a_t_corner : Nat) (t_size : Int32) (t_as t_corner : Nat → Int32) (x1 x2 : Int32) : gM l yX7_add wsX7_add rmX7_add D (gT cI cB cZ cM cJ cK) (wX7_add cI cB cZ cM cJ cK  a_t a_t_as a_t_corner t_size t_as t_corner) [.ref a_t, .int x1, .int x2] (fX7_add N t_size t_as t_corner x1 x2) (fun _u : Int32 × Int32 × (Nat → Int32) × (Nat → Int32) => some (.int _u.1)) (fun _u : Int32 × Int32 × (Nat → Int32) × (Nat → Int32) => (wX7_add cI cB cZ cM cJ cK  a_t a_t_as a_t_corner _u.2.1 _u.2.2.1 _u.2.2.2)) := by
  refine g_start (cc := cX7_add) (maxL := 3) (ret := (some .boolean)) (by decide) rfl (Nat.le_of_ble_eq_true rfl) ?_
  intro F hf hF p e s m below meth c A ls S hK hA Wd hr hlk hnm hl
  refine lv_aload_n S.1 S.2.1 dX7_add_0 rfl (lv_at hl 0 rfl) ?_
  refine g_get (a := a_t) S hK Wd iX7_add_X7 0 rfl rfl 2 rfl rfl kX7_add_1 rfl dX7_add_1 ?_
  refine lv_bipush (v := 6) S.1 S.2.1 dX7_add_4 (by decide) ?_
  refine lv_icmp_lt (tgt := 11) S.1 S.2.1 dX7_add_6 rfl (fun c1 => ?_) (fun c1 => ?_)
  · have hf := g_if hf c1
    refine lv_aload_n S.1 S.2.1 dX7_add_11 rfl (lv_at hl 0 rfl) ?_
    refine g_get (a := a_t) S hK Wd iX7_add_X7 0 rfl rfl 0 rfl rfl kX7_add_2 rfl dX7_add_12 ?_
    refine lv_aload_n S.1 S.2.1 dX7_add_15 rfl (lv_at hl 0 rfl) ?_
    refine g_get (a := a_t) S hK Wd iX7_add_X7 0 rfl rfl 2 rfl rfl kX7_add_1 rfl dX7_add_16 ?_
    refine lv_iload_n S.1 S.2.1 dX7_add_19 rfl (lv_at hl 1 rfl) ?_
    obtain ⟨h2, hf⟩ := g_gi hF hf
    refine g_iast (a := a_t_as) (ws' := (wX7_add cI cB cZ cM cJ cK  a_t a_t_as a_t_corner t_size (upd t_as t_size.toNatClampNeg x1) t_corner)) S hK Wd 1 0 rfl rfl h2 dX7_add_20 rfl (fun H locs Wd => ?_)
    refine lv_aload_n S.1 S.2.1 dX7_add_21 rfl (lv_at hl 0 rfl) ?_
    refine g_get (a := a_t) S hK Wd iX7_add_X7 0 rfl rfl 1 rfl rfl kX7_add_3 rfl dX7_add_22 ?_
    refine lv_aload_n S.1 S.2.1 dX7_add_25 rfl (lv_at hl 0 rfl) ?_
    refine g_get (a := a_t) S hK Wd iX7_add_X7 0 rfl rfl 2 rfl rfl kX7_add_1 rfl dX7_add_26 ?_
    refine lv_iload_n S.1 S.2.1 dX7_add_29 rfl (lv_at hl 2 rfl) ?_
    obtain ⟨h3, hf⟩ := g_gi hF hf
    refine g_iast (a := a_t_corner) (ws' := (wX7_add cI cB cZ cM cJ cK  a_t a_t_as a_t_corner t_size (upd t_as t_size.toNatClampNeg x1) (upd t_corner t_size.toNatClampNeg x2))) S hK Wd 2 0 rfl rfl h3 dX7_add_30 rfl (fun H locs Wd => ?_)
    refine lv_aload_n S.1 S.2.1 dX7_add_31 rfl (lv_at hl 0 rfl) ?_
    refine lv_dup S.1 S.2.1 dX7_add_32 rfl ?_
    refine g_get (a := a_t) S hK Wd iX7_add_X7 0 rfl rfl 2 rfl rfl kX7_add_1 rfl dX7_add_33 ?_
    refine lv_iconst (v := 1) S.1 S.2.1 dX7_add_36 (by decide) ?_
    refine lv_iadd S.1 S.2.1 dX7_add_37 ?_
    refine g_put (a := a_t) (ws' := (wX7_add cI cB cZ cM cJ cK  a_t a_t_as a_t_corner (t_size + (1 : Int32)) (upd t_as t_size.toNatClampNeg x1) (upd t_corner t_size.toNatClampNeg x2))) S hK Wd iX7_add_X7 tyX7 tyX7_ok nmX7 0 rfl rfl 2 rfl rfl kX7_add_1 rfl rfl rfl dX7_add_38 rfl (fun H locs Wd => ?_)
    refine lv_iconst (v := 1) S.1 S.2.1 dX7_add_41 (by decide) ?_
    exact g_zret S Wd hr hlk rfl dX7_add_42 ((1 : Int32), (t_size + (1 : Int32)), (upd t_as t_size.toNatClampNeg x1), (upd t_corner t_size.toNatClampNeg x2)) hf rfl rfl
  · have hf := g_ifn hf c1
    refine lv_iconst (v := 0) S.1 S.2.1 dX7_add_9 (by decide) ?_
    exact g_zret S Wd hr hlk rfl dX7_add_10 ((0 : Int32), t_size, t_as, t_corner) hf rfl rfl
def wX7_agreeWith (cI cB cZ cM cJ cK : ClassId) (a_t a_t_as a_t_corner a_p1 a_p1_told a_p1_leading a_p1_ended a_p1_march : Nat) (t_size : Int32) (t_as t_corner : Nat → Int32) (p1_size p1_homes : Int32) (p1_told p1_leading p1_ended : Nat → Int32) : List va_W := [[(a_t, .inr (7, [.ref a_t_as, .ref a_t_corner, .int t_size]))], [(a_t_as, .inl (cI, 6, .inl t_as))], [(a_t_corner, .inl (cI, 6, .inl t_corner))], [(a_p1, .inr (6, [.ref a_p1_told, .ref a_p1_leading, .ref a_p1_ended, .ref a_p1_march, .int p1_size, .int p1_homes]))], [(a_p1_told, .inl (cI, 6, .inl p1_told))], [(a_p1_leading, .inl (cI, 6, .inl p1_leading))], [(a_p1_ended, .inl (cI, 6, .inl p1_ended))]]
def rmX7_agreeWith : Room := { frames := 0, cells := 0, slots := 0, locals := 0 }
theorem kX7_agreeWith_1 : Cond.fieldLink RX7 18 "FeastMarch$Sights" "size" "I" ∈ wsX7_agreeWith := List.mem_of_getElem? (i := 1) rfl
theorem kX7_agreeWith_2 : Cond.fieldLink RX7 9 "FeastMarch$Sights" "as" "[I" ∈ wsX7_agreeWith := List.mem_of_getElem? (i := 2) rfl
theorem kX7_agreeWith_3 : Cond.fieldLink RX7 22 "FeastMarch$Row" "size" "I" ∈ wsX7_agreeWith := List.mem_of_getElem? (i := 3) rfl
theorem kX7_agreeWith_4 : Cond.fieldLink RX7 25 "FeastMarch$Row" "ended" "[I" ∈ wsX7_agreeWith := List.mem_of_getElem? (i := 4) rfl
theorem kX7_agreeWith_5 : Cond.fieldLink RX7 15 "FeastMarch$Sights" "corner" "[I" ∈ wsX7_agreeWith := List.mem_of_getElem? (i := 5) rfl
theorem iX7_agreeWith_X6 : ∀ w ∈ wsX60, w ∈ wsX7_agreeWith := fun _ h => List.mem_cons_of_mem _ (List.mem_append_right _ h)
theorem iX7_agreeWith_X7 : ∀ w ∈ wsX70, w ∈ wsX7_agreeWith := fun _ h => List.mem_cons_of_mem _ (List.mem_append_left _ (List.mem_append_right _ h))
theorem n_X7_agreeWith : yX7_agreeWith.cls = RX7 ∧ yX7_agreeWith.cls ≠ "java/lang/invoke/MethodHandle" ∧ yX7_agreeWith.cls ≠ "java/lang/invoke/VarHandle" ∧ (parseMethodDescriptor yX7_agreeWith.desc).map (fun d => d.parameters.length) = some 1 := by decide +kernel
set_option maxHeartbeats 4000000 in
set_option maxRecDepth 100000 in
theorem c_X7_agreeWith (l : Launch) (D : va_G) (N : Nat) (cI cB cZ cM cJ cK : ClassId) (a_t a_t_as a_t_corner a_p1 a_p1_told a_p1_leading a_p1_ended a_p1_march : Nat) (t_size : Int32) (t_as t_corner : Nat → Int32) (p1_size p1_homes : Int32) (p1_told p1_leading p1_ended : Nat → Int32) : gM l yX7_agreeWith wsX7_agreeWith rmX7_agreeWith D (gT cI cB cZ cM cJ cK) (wX7_agreeWith cI cB cZ cM cJ cK  a_t a_t_as a_t_corner a_p1 a_p1_told a_p1_leading a_p1_ended a_p1_march t_size t_as t_corner p1_size p1_homes p1_told p1_leading p1_ended) [.ref a_t, .ref a_p1] (fX7_agreeWith N t_size t_as t_corner p1_size p1_ended) (fun _u : Int32 => some (.int _u)) (fun _u : Int32 => (wX7_agreeWith cI cB cZ cM cJ cK  a_t a_t_as a_t_corner a_p1 a_p1_told a_p1_leading a_p1_ended a_p1_march t_size t_as t_corner p1_size p1_homes p1_told p1_leading p1_ended)) := by
  refine g_start (cc := cX7_agreeWith) (maxL := 3) (ret := (some .boolean)) (by decide) rfl (Nat.le_of_ble_eq_true rfl) ?_
  intro F hf hF p e s m below meth c A ls S hK hA Wd hr hlk hnm hl
  have b2 : ∀ (n : Nat), ∀ (x2 : Int32) (H1 : Heap) (locs1 : List Loc) (ls1 : Array Slot), gw D A s.heap (wX7_agreeWith cI cB cZ cM cJ cK  a_t a_t_as a_t_corner a_p1 a_p1_told a_p1_leading a_p1_ended a_p1_march t_size t_as t_corner p1_size p1_homes p1_told p1_leading p1_ended) H1 locs1 → lv_has ls1 3 [(0, .ref a_t), (1, .ref a_p1), (2, .int x2)] → F = fX7_agreeWith_b2 N t_size t_as t_corner p1_size p1_ended  n x2 → W p l e rmX7_agreeWith s m [.ref a_t, .ref a_p1].toArray below meth c H1 locs1 0 0 (MQ below (gQ F (fun _u : Int32 => some (.int _u)) (fun _u : Int32 => (wX7_agreeWith cI cB cZ cM cJ cK  a_t a_t_as a_t_corner a_p1 a_p1_told a_p1_leading a_p1_ended a_p1_march t_size t_as t_corner p1_size p1_homes p1_told p1_leading p1_ended)) D A) [.ref a_t, .ref a_p1].toArray s 0 0 A) (F0 m 2 ls1 []) := by
    intro  n
    induction n with
    | zero => intro x2 H locs ls Wd hl hf; exact absurd hf hF
    | succ n ih =>
      intro x2 H locs ls Wd hl hf
      refine lv_iload_n S.1 S.2.1 dX7_agreeWith_2 rfl (lv_at hl 2 rfl) ?_
      refine lv_aload_n S.1 S.2.1 dX7_agreeWith_3 rfl (lv_at hl 0 rfl) ?_
      refine g_get (a := a_t) S hK Wd iX7_agreeWith_X7 0 rfl rfl 2 rfl rfl kX7_agreeWith_1 rfl dX7_agreeWith_4 ?_
      refine lv_icmp_ge (tgt := 51) S.1 S.2.1 dX7_agreeWith_7 rfl (fun c1 => ?_) (fun c1 => ?_)
      · have hf := g_if hf c1
        refine lv_iconst (v := 1) S.1 S.2.1 dX7_agreeWith_51 (by decide) ?_
        exact g_zret S Wd hr hlk rfl dX7_agreeWith_52 (1 : Int32) hf rfl rfl
      · have hf := g_ifn hf c1
        refine lv_aload_n S.1 S.2.1 dX7_agreeWith_10 rfl (lv_at hl 0 rfl) ?_
        refine g_get (a := a_t) S hK Wd iX7_agreeWith_X7 0 rfl rfl 0 rfl rfl kX7_agreeWith_2 rfl dX7_agreeWith_11 ?_
        refine lv_iload_n S.1 S.2.1 dX7_agreeWith_14 rfl (lv_at hl 2 rfl) ?_
        obtain ⟨h2, hf⟩ := g_gi hF hf
        refine g_iald (a := a_t_as) S hK Wd 1 0 rfl rfl h2 dX7_agreeWith_15 ?_
        refine lv_aload_n S.1 S.2.1 dX7_agreeWith_16 rfl (lv_at hl 1 rfl) ?_
        refine g_get (a := a_p1) S hK Wd iX7_agreeWith_X6 3 rfl rfl 4 rfl rfl kX7_agreeWith_3 rfl dX7_agreeWith_17 ?_
        refine lv_icmp_ge (tgt := 43) S.1 S.2.1 dX7_agreeWith_20 rfl (fun c3 => ?_) (fun c3 => ?_)
        · have hf := g_if hf c3
          refine lv_iconst (v := 0) S.1 S.2.1 dX7_agreeWith_43 (by decide) ?_
          exact g_zret S Wd hr hlk rfl dX7_agreeWith_44 (0 : Int32) hf rfl rfl
        · have hf := g_ifn hf c3
          refine lv_aload_n S.1 S.2.1 dX7_agreeWith_23 rfl (lv_at hl 1 rfl) ?_
          refine g_get (a := a_p1) S hK Wd iX7_agreeWith_X6 3 rfl rfl 2 rfl rfl kX7_agreeWith_4 rfl dX7_agreeWith_24 ?_
          refine lv_aload_n S.1 S.2.1 dX7_agreeWith_27 rfl (lv_at hl 0 rfl) ?_
          refine g_get (a := a_t) S hK Wd iX7_agreeWith_X7 0 rfl rfl 0 rfl rfl kX7_agreeWith_2 rfl dX7_agreeWith_28 ?_
          refine lv_iload_n S.1 S.2.1 dX7_agreeWith_31 rfl (lv_at hl 2 rfl) ?_
          obtain ⟨h4, hf⟩ := g_gi hF hf
          refine g_iald (a := a_t_as) S hK Wd 1 0 rfl rfl h4 dX7_agreeWith_32 ?_
          obtain ⟨h5, hf⟩ := g_gi hF hf
          refine g_iald (a := a_p1_ended) S hK Wd 6 0 rfl rfl h5 dX7_agreeWith_33 ?_
          refine lv_aload_n S.1 S.2.1 dX7_agreeWith_34 rfl (lv_at hl 0 rfl) ?_
          refine g_get (a := a_t) S hK Wd iX7_agreeWith_X7 0 rfl rfl 1 rfl rfl kX7_agreeWith_5 rfl dX7_agreeWith_35 ?_
          refine lv_iload_n S.1 S.2.1 dX7_agreeWith_38 rfl (lv_at hl 2 rfl) ?_
          obtain ⟨h6, hf⟩ := g_gi hF hf
          refine g_iald (a := a_t_corner) S hK Wd 2 0 rfl rfl h6 dX7_agreeWith_39 ?_
          refine lv_icmp_eq (tgt := 45) S.1 S.2.1 dX7_agreeWith_40 rfl (fun c7 => ?_) (fun c7 => ?_)
          · have hf := g_if hf c7
            refine lv_iinc (v := (x2 + (1 : Int32))) (lv' := [(2, .int (x2 + (1 : Int32))), (0, .ref a_t), (1, .ref a_p1)]) S.1 S.2.1 dX7_agreeWith_45 hl (k := 2) rfl rfl (by decide) rfl (fun ls hl => ?_)
            refine lv_goto (tgt := 2) S.1 S.2.1 dX7_agreeWith_48 rfl ?_
            exact ih (x2 + (1 : Int32)) _ _ _ Wd (lv_sub hl [1, 2, 0] rfl) hf
          · have hf := g_ifn hf c7
            refine lv_iconst (v := 0) S.1 S.2.1 dX7_agreeWith_43 (by decide) ?_
            exact g_zret S Wd hr hlk rfl dX7_agreeWith_44 (0 : Int32) hf rfl rfl
  refine lv_iconst (v := 0) S.1 S.2.1 dX7_agreeWith_0 (by decide) ?_
  refine lv_istore_n (lv' := [(2, .int (0 : Int32)), (0, .ref a_t), (1, .ref a_p1)]) S.1 S.2.1 dX7_agreeWith_1 rfl hl (by decide) rfl (fun ls hl => ?_)
  exact b2  N (0 : Int32) _ _ _ Wd (lv_sub hl [1, 2, 0] rfl) hf
