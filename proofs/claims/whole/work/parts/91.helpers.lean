theorem sO_P {G : va_G} {cl : List vw_C} {cA : Nat → ClassId} {Q : Nat → Nat → Nat} {q : Nat → Nat} {z : DeskS} {o v : OutS} {H : Heap} (h : va_P G cl ((wDesk cA Q z ++ wOut cA q o).set 47 (q 0, .inl (cA 1, 1, .inr (.inl v)))) H) : va_P G cl (wDesk cA Q z ++ wOut cA q v) H := h
theorem wh_L_type : Cond.codeWith yL_type cL_type 8 (some .int) [(0, 16, 19, 13)] ∈ wd := wd_1 (List.mem_of_getElem? (i := 166) rfl) rfl
def f_L_type (zD : DeskS) (zO : OutS) (a1 : Int32) (a2 : Int32) (a3 : Int32) (a4 : Int32) (a5 : Int32) : Option (Int32 × DeskS × OutS) := (f_X6_type zD a1 a2 a3 a4 a5).bind fun r => if r.1 = 0 then some ((0 : Int32), r.2.2, vp_updL zO (0 : Int32).toNatClampNeg r.2.1.toInt64) else if r.1 = 2 then some ((1 : Int32), r.2.2, zO) else none
def rm_L_type : Room := { frames := 7, cells := 1, slots := 6, locals := 116 }
set_option maxHeartbeats 4000000 in
set_option maxRecDepth 100000 in
theorem m_L_type (l : Launch) (htr : l.stackTraces = false) (G : va_G) (cA : Nat → ClassId) (sa : Nat → Nat) (Q : Nat → Nat → Nat) (qO : Nat → Nat) (zD : DeskS) (zO : OutS) (a1 : Int32) (a2 : Int32) (a3 : Int32) (a4 : Int32) (a5 : Int32) (res : Int32 × DeskS × OutS) (hf : f_L_type zD zO a1 a2 a3 a4 a5 = some res) : MHi l yL_type (Cond.codeWith yL_type cL_type 8 (some .int) [(0, 16, 19, 13)] :: wd) rm_L_type G cA sa [.ref (Q 0 0), .int a1, .int a2, .int a3, .int a4, .int a5, .ref (qO 0)] (wDesk cA Q zD ++ wOut cA qO zO) (wDesk cA Q res.2.1 ++ wOut cA qO res.2.2) res.1 := by
  refine va_MetW (cc := cL_type) (maxL := 8) (ret := (some .int)) (hh := [(0, 16, 19, 13)]) (by decide) rfl ?_
  intro p e s m args below meth c s₁ B hml hv
  obtain ⟨rfl, hK, hP, hD0, hxh⟩ := hv
  have hx := B.exec
  have hb := B.bytes
  have hr := B.returns
  have hlocks := B.notSynchronized
  have hts0 := atoms_spec (ws := Cond.codeWith yL_type cL_type 8 (some .int) [(0, 16, 19, 13)] :: wd) B.pre
  have hts : ∀ w ∈ wd, w.before ([.ref (Q 0 0), .int a1, .int a2, .int a3, .int a4, .int a5, .ref (qO 0)] : List Value).toArray s = true := fun w h => hts0 w (List.mem_cons_of_mem _ h)
  have htab := vx_table (x := yL_type) B (hts0 _ List.mem_cons_self)
  have hown : s.vm.findClass RL = some m.cls := findClass_of_methodNamed B.named
  have hD := adr.self hD0
  have hS : va_S (adr (wDesk cA Q zD ++ wOut cA qO zO)) s.heap s.heap [] := va_S.rf
  have hl := lv_entry ([.ref (Q 0 0), .int a1, .int a2, .int a3, .int a4, .int a5, .ref (qO 0)]) (n := 8) (Nat.le_of_ble_eq_true rfl)
  rw [lg_entry_eq]
  generalize (lg_sl ([.ref (Q 0 0), .int a1, .int a2, .int a3, .int a4, .int a5, .ref (qO 0)]) ++ List.replicate (8 - (lg_sl ([.ref (Q 0 0), .int a1, .int a2, .int a3, .int a4, .int a5, .ref (qO 0)])).length) Slot.unset).toArray = ls at hl ⊢
  have hl : lv_has ls 8 [(0, .ref (Q 0 0)), (1, .int a1), (2, .int a2), (3, .int a3), (4, .int a4), (5, .int a5), (6, .ref (qO 0))] := hl
  unfold f_L_type at hf
  obtain ⟨r, hr1, hf⟩ := obd hf
  refine lv_aload hx hb dL_type_0 (lv_at hl 6 rfl) ?_
  refine lv_iconst (v := 0) hx hb dL_type_2 (by decide) ?_
  refine lv_aload_n hx hb dL_type_3 rfl (lv_at hl 0 rfl) ?_
  refine lv_iload_n hx hb dL_type_4 rfl (lv_at hl 1 rfl) ?_
  refine lv_iload_n hx hb dL_type_5 rfl (lv_at hl 2 rfl) ?_
  refine lv_iload_n hx hb dL_type_6 rfl (lv_at hl 3 rfl) ?_
  refine lv_iload hx hb dL_type_7 (lv_at hl 4 rfl) ?_
  refine lv_iload hx hb dL_type_9 (lv_at hl 5 rfl) ?_
  refine cXiV (As := [.int a1, .int a2, .int a3, .int a4, .int a5]) (rest := [.int 0, .ref (qO 0)]) (W1 := wDesk cA Q r.2.2 ++ wOut cA qO zO) ⟨hx, hb, hml, hown, hts⟩ (m_X6_type l G cA htr sa Q zD a1 a2 a3 a4 a5 r hr1) (cw_X6_type hts wi_222 ⟨Nat.le_of_ble_eq_true rfl, Nat.le_of_ble_eq_true rfl⟩) hK hP hD hS [0, 1, 2, 3, 4, 5, 6, 7, 8, 9, 10, 11, 12, 13, 14, 15, 16, 17, 18, 19, 20, 21, 22, 23, 24, 25, 26, 27, 28, 29, 30, 31, 32, 33, 34, 35, 36, 37, 38, 39, 40, 41, 42, 43, 44, 45, 46] [48, 49, 50, 51, 52, 53, 54, 55, 56, 57, 58, 59, 60, 61, 62, 63, 64, 65, 66, 67, 68, 69, 70, 71, 72, 73, 74, 75, 76, 77, 78, 79, 80, 81, 82, 83, 84, 85, 86, 87, 88, 89, 90, 91, 92, 93, 94, 47] rfl rfl rfl (by decide) rfl hxh.1 (va_recv hK.1 hP (ci := 4) (q0 := 0) rfl rfl) rfl hl.1 rfl (Nat.le_of_ble_eq_true rfl) dL_type_11 ⟨Nat.le_of_ble_eq_true rfl, Nat.le_of_ble_eq_true rfl⟩ (fun ce q9 H locs hk hP hD hS hce hcv hcl => ?_) (fun H locs hk hP hD hS => ?_)
  · rw [if_neg hk] at hf
    by_cases h2 : r.1 = 2
    · rw [if_pos h2] at hf
      cases hf
      rw [h2] at hcl
      have hcl : s.vm.findClass "java/lang/IllegalStateException" = some ce.cls := hcl
      refine vx_catch (own := RL) (name := "java/lang/IllegalStateException") (E := "java/lang/IllegalStateException") hown [] ⟨0, 16, 19, 13⟩ [] htab (fun z hz => by cases hz) (by decide) (by decide) (hts _ wi_221) (va_Nw.use rfl (hxh.1.2.2.2 _ (List.mem_cons_of_mem _ List.mem_cons_self))) hce hcv hcl ?_
      refine W.eq (g2 := F0 m 19 ls [.ref q9]) rfl ?_
      refine lv_astore (lv' := [(7, .ref q9), (0, .ref (Q 0 0)), (1, .int a1), (2, .int a2), (3, .int a3), (4, .int a4), (5, .int a5), (6, .ref (qO 0))]) hx hb dL_type_19 hl (by decide) rfl (fun ls hl => ?_)
      refine lv_iconst (v := 1) hx hb dL_type_21 (by decide) ?_
      exact W.iret hx hb hr (fun t ht hW => ⟨⟨_, (), rfl, rfl, toT ht hP⟩, hS.F ht⟩) hS.2.2 dL_type_22 hlocks
    · rw [if_neg h2] at hf
      cases hf
  · rw [if_pos hk] at hf
    cases hf
    refine lv_i2l (v := r.2.1.toInt64) hx hb dL_type_14 rfl ?_
    refine va_last hx hb hK.1 hP hD hS 47 1 rfl rfl (inb_in (by decide)) dL_type_15 (fun H locs hP hD hS => ?_)
    have hP := sO_P hP
    refine lv_goto (tgt := 23) hx hb dL_type_16 (by decide) ?_
    refine lv_iconst (v := 0) hx hb dL_type_23 (by decide) ?_
    exact W.iret hx hb hr (fun t ht hW => ⟨⟨_, (), rfl, rfl, toT ht hP⟩, hS.F ht⟩) hS.2.2 dL_type_24 hlocks
theorem cw_L_type {R : Room} {s : State} {args : Array Value} {index : Nat} (ht : ∀ w ∈ wd, w.before args s = true) (hlink : Cond.methodLink RL index yL_type ∈ wd) (hR : rm_L_type.frames + 1 ≤ R.frames ∧ 8 + (8 + 11) + rm_L_type.locals ≤ R.locals) : vx_CSW R s args RL index yL_type cL_type 8 (some .int) [(0, 16, 19, 13)] (Cond.codeWith yL_type cL_type 8 (some .int) [(0, 16, 19, 13)] :: wd) rm_L_type 1 6 7 := cwH9 7 ht wh_L_type wi_219 wi_54 hlink (by decide +kernel) rfl rfl hR
theorem wh_L_read : Cond.codeWith yL_read cL_read 4 (some .int) [(0, 9, 12, 19)] ∈ wd := wd_2 (List.mem_of_getElem? (i := 8) rfl) rfl
def f_L_read (zD : DeskS) (zO : OutS) (a1 : Int32) : Option (Int32 × DeskS × OutS) := (f_X6_read zD a1).bind fun r => if r.1 = 0 then some ((0 : Int32), r.2.2, vp_updL zO (0 : Int32).toNatClampNeg r.2.1.toInt64) else if r.1 = 1 then some ((1 : Int32), r.2.2, zO) else none
def rm_L_read : Room := { frames := 7, cells := 1, slots := 6, locals := 183 }
set_option maxHeartbeats 4000000 in
set_option maxRecDepth 100000 in
theorem m_L_read (l : Launch) (htr : l.stackTraces = false) (G : va_G) (cA : Nat → ClassId) (sa : Nat → Nat) (Q : Nat → Nat → Nat) (qO : Nat → Nat) (zD : DeskS) (zO : OutS) (a1 : Int32) (res : Int32 × DeskS × OutS) (hf : f_L_read zD zO a1 = some res) : MHi l yL_read (Cond.codeWith yL_read cL_read 4 (some .int) [(0, 9, 12, 19)] :: wd) rm_L_read G cA sa [.ref (Q 0 0), .int a1, .ref (qO 0)] (wDesk cA Q zD ++ wOut cA qO zO) (wDesk cA Q res.2.1 ++ wOut cA qO res.2.2) res.1 := by
  refine va_MetW (cc := cL_read) (maxL := 4) (ret := (some .int)) (hh := [(0, 9, 12, 19)]) (by decide) rfl ?_
  intro p e s m args below meth c s₁ B hml hv
  obtain ⟨rfl, hK, hP, hD0, hxh⟩ := hv
  have hx := B.exec
  have hb := B.bytes
  have hr := B.returns
  have hlocks := B.notSynchronized
  have hts0 := atoms_spec (ws := Cond.codeWith yL_read cL_read 4 (some .int) [(0, 9, 12, 19)] :: wd) B.pre
  have hts : ∀ w ∈ wd, w.before ([.ref (Q 0 0), .int a1, .ref (qO 0)] : List Value).toArray s = true := fun w h => hts0 w (List.mem_cons_of_mem _ h)
  have htab := vx_table (x := yL_read) B (hts0 _ List.mem_cons_self)
  have hown : s.vm.findClass RL = some m.cls := findClass_of_methodNamed B.named
  have hD := adr.self hD0
  have hS : va_S (adr (wDesk cA Q zD ++ wOut cA qO zO)) s.heap s.heap [] := va_S.rf
  have hl := lv_entry ([.ref (Q 0 0), .int a1, .ref (qO 0)]) (n := 4) (Nat.le_of_ble_eq_true rfl)
  rw [lg_entry_eq]
  generalize (lg_sl ([.ref (Q 0 0), .int a1, .ref (qO 0)]) ++ List.replicate (4 - (lg_sl ([.ref (Q 0 0), .int a1, .ref (qO 0)])).length) Slot.unset).toArray = ls at hl ⊢
  have hl : lv_has ls 4 [(0, .ref (Q 0 0)), (1, .int a1), (2, .ref (qO 0))] := hl
  unfold f_L_read at hf
  obtain ⟨r, hr1, hf⟩ := obd hf
  refine lv_aload_n hx hb dL_read_0 rfl (lv_at hl 2 rfl) ?_
  refine lv_iconst (v := 0) hx hb dL_read_1 (by decide) ?_
  refine lv_aload_n hx hb dL_read_2 rfl (lv_at hl 0 rfl) ?_
  refine lv_iload_n hx hb dL_read_3 rfl (lv_at hl 1 rfl) ?_
  refine cXiV (As := [.int a1]) (rest := [.int 0, .ref (qO 0)]) (W1 := wDesk cA Q r.2.2 ++ wOut cA qO zO) ⟨hx, hb, hml, hown, hts⟩ (m_X6_read l G cA htr sa Q zD a1 r hr1) (cw_X6_read hts wi_304 ⟨Nat.le_of_ble_eq_true rfl, Nat.le_of_ble_eq_true rfl⟩) hK hP hD hS [0, 1, 2, 3, 4, 5, 6, 7, 8, 9, 10, 11, 12, 13, 14, 15, 16, 17, 18, 19, 20, 21, 22, 23, 24, 25, 26, 27, 28, 29, 30, 31, 32, 33, 34, 35, 36, 37, 38, 39, 40, 41, 42, 43, 44, 45, 46] [48, 49, 50, 51, 52, 53, 54, 55, 56, 57, 58, 59, 60, 61, 62, 63, 64, 65, 66, 67, 68, 69, 70, 71, 72, 73, 74, 75, 76, 77, 78, 79, 80, 81, 82, 83, 84, 85, 86, 87, 88, 89, 90, 91, 92, 93, 94, 47] rfl rfl rfl (by decide) rfl hxh.1 (va_recv hK.1 hP (ci := 4) (q0 := 0) rfl rfl) rfl hl.1 rfl (Nat.le_of_ble_eq_true rfl) dL_read_4 ⟨Nat.le_of_ble_eq_true rfl, Nat.le_of_ble_eq_true rfl⟩ (fun ce q9 H locs hk hP hD hS hce hcv hcl => ?_) (fun H locs hk hP hD hS => ?_)
  · rw [if_neg hk] at hf
    by_cases h1 : r.1 = 1
    · rw [if_pos h1] at hf
      cases hf
      rw [h1] at hcl
      have hcl : s.vm.findClass "java/lang/IllegalArgumentException" = some ce.cls := hcl
      refine vx_catch (own := RL) (name := "java/lang/IllegalArgumentException") (E := "java/lang/IllegalArgumentException") hown [] ⟨0, 9, 12, 19⟩ [] htab (fun z hz => by cases hz) (by decide) (by decide) (hts _ wi_303) (va_Nw.use rfl (hxh.1.2.2.2 _ List.mem_cons_self)) hce hcv hcl ?_
      refine W.eq (g2 := F0 m 12 ls [.ref q9]) rfl ?_
      refine lv_astore_n (lv' := [(3, .ref q9), (0, .ref (Q 0 0)), (1, .int a1), (2, .ref (qO 0))]) hx hb dL_read_12 rfl hl (by decide) rfl (fun ls hl => ?_)
      refine lv_iconst (v := 1) hx hb dL_read_13 (by decide) ?_
      exact W.iret hx hb hr (fun t ht hW => ⟨⟨_, (), rfl, rfl, toT ht hP⟩, hS.F ht⟩) hS.2.2 dL_read_14 hlocks
    · rw [if_neg h1] at hf
      cases hf
  · rw [if_pos hk] at hf
    cases hf
    refine lv_i2l (v := r.2.1.toInt64) hx hb dL_read_7 rfl ?_
    refine va_last hx hb hK.1 hP hD hS 47 1 rfl rfl (inb_in (by decide)) dL_read_8 (fun H locs hP hD hS => ?_)
    have hP := sO_P hP
    refine lv_goto (tgt := 15) hx hb dL_read_9 (by decide) ?_
    refine lv_iconst (v := 0) hx hb dL_read_15 (by decide) ?_
    exact W.iret hx hb hr (fun t ht hW => ⟨⟨_, (), rfl, rfl, toT ht hP⟩, hS.F ht⟩) hS.2.2 dL_read_16 hlocks
theorem cw_L_read {R : Room} {s : State} {args : Array Value} {index : Nat} (ht : ∀ w ∈ wd, w.before args s = true) (hlink : Cond.methodLink RL index yL_read ∈ wd) (hR : rm_L_read.frames + 1 ≤ R.frames ∧ 8 + (4 + 11) + rm_L_read.locals ≤ R.locals) : vx_CSW R s args RL index yL_read cL_read 4 (some .int) [(0, 9, 12, 19)] (Cond.codeWith yL_read cL_read 4 (some .int) [(0, 9, 12, 19)] :: wd) rm_L_read 1 6 3 := cwH9 3 ht wh_L_read wi_301 wi_54 hlink (by decide +kernel) rfl rfl hR
theorem wh_L_write : Cond.codeWith yL_write cL_write 4 (some .int) [(0, 9, 12, 19)] ∈ wd := wd_2 (List.mem_of_getElem? (i := 172) rfl) rfl
def f_L_write (zD : DeskS) (zO : OutS) (a1 : Int32) : Option (Int32 × DeskS × OutS) := (f_X6_write zD a1).bind fun r => if r.1 = 0 then some ((0 : Int32), r.2.2, vp_updL zO (0 : Int32).toNatClampNeg r.2.1.toInt64) else if r.1 = 1 then some ((1 : Int32), r.2.2, zO) else none
def rm_L_write : Room := { frames := 7, cells := 1, slots := 6, locals := 166 }
set_option maxHeartbeats 4000000 in
set_option maxRecDepth 100000 in
theorem m_L_write (l : Launch) (htr : l.stackTraces = false) (G : va_G) (cA : Nat → ClassId) (sa : Nat → Nat) (Q : Nat → Nat → Nat) (qO : Nat → Nat) (zD : DeskS) (zO : OutS) (a1 : Int32) (res : Int32 × DeskS × OutS) (hf : f_L_write zD zO a1 = some res) : MHi l yL_write (Cond.codeWith yL_write cL_write 4 (some .int) [(0, 9, 12, 19)] :: wd) rm_L_write G cA sa [.ref (Q 0 0), .int a1, .ref (qO 0)] (wDesk cA Q zD ++ wOut cA qO zO) (wDesk cA Q res.2.1 ++ wOut cA qO res.2.2) res.1 := by
  refine va_MetW (cc := cL_write) (maxL := 4) (ret := (some .int)) (hh := [(0, 9, 12, 19)]) (by decide) rfl ?_
  intro p e s m args below meth c s₁ B hml hv
  obtain ⟨rfl, hK, hP, hD0, hxh⟩ := hv
  have hx := B.exec
  have hb := B.bytes
  have hr := B.returns
  have hlocks := B.notSynchronized
  have hts0 := atoms_spec (ws := Cond.codeWith yL_write cL_write 4 (some .int) [(0, 9, 12, 19)] :: wd) B.pre
  have hts : ∀ w ∈ wd, w.before ([.ref (Q 0 0), .int a1, .ref (qO 0)] : List Value).toArray s = true := fun w h => hts0 w (List.mem_cons_of_mem _ h)
  have htab := vx_table (x := yL_write) B (hts0 _ List.mem_cons_self)
  have hown : s.vm.findClass RL = some m.cls := findClass_of_methodNamed B.named
  have hD := adr.self hD0
  have hS : va_S (adr (wDesk cA Q zD ++ wOut cA qO zO)) s.heap s.heap [] := va_S.rf
  have hl := lv_entry ([.ref (Q 0 0), .int a1, .ref (qO 0)]) (n := 4) (Nat.le_of_ble_eq_true rfl)
  rw [lg_entry_eq]
  generalize (lg_sl ([.ref (Q 0 0), .int a1, .ref (qO 0)]) ++ List.replicate (4 - (lg_sl ([.ref (Q 0 0), .int a1, .ref (qO 0)])).length) Slot.unset).toArray = ls at hl ⊢
  have hl : lv_has ls 4 [(0, .ref (Q 0 0)), (1, .int a1), (2, .ref (qO 0))] := hl
  unfold f_L_write at hf
  obtain ⟨r, hr1, hf⟩ := obd hf
  refine lv_aload_n hx hb dL_write_0 rfl (lv_at hl 2 rfl) ?_
  refine lv_iconst (v := 0) hx hb dL_write_1 (by decide) ?_
  refine lv_aload_n hx hb dL_write_2 rfl (lv_at hl 0 rfl) ?_
  refine lv_iload_n hx hb dL_write_3 rfl (lv_at hl 1 rfl) ?_
  refine cXiV (As := [.int a1]) (rest := [.int 0, .ref (qO 0)]) (W1 := wDesk cA Q r.2.2 ++ wOut cA qO zO) ⟨hx, hb, hml, hown, hts⟩ (m_X6_write l G cA htr sa Q zD a1 r hr1) (cw_X6_write hts wi_467 ⟨Nat.le_of_ble_eq_true rfl, Nat.le_of_ble_eq_true rfl⟩) hK hP hD hS [0, 1, 2, 3, 4, 5, 6, 7, 8, 9, 10, 11, 12, 13, 14, 15, 16, 17, 18, 19, 20, 21, 22, 23, 24, 25, 26, 27, 28, 29, 30, 31, 32, 33, 34, 35, 36, 37, 38, 39, 40, 41, 42, 43, 44, 45, 46] [48, 49, 50, 51, 52, 53, 54, 55, 56, 57, 58, 59, 60, 61, 62, 63, 64, 65, 66, 67, 68, 69, 70, 71, 72, 73, 74, 75, 76, 77, 78, 79, 80, 81, 82, 83, 84, 85, 86, 87, 88, 89, 90, 91, 92, 93, 94, 47] rfl rfl rfl (by decide) rfl hxh.1 (va_recv hK.1 hP (ci := 4) (q0 := 0) rfl rfl) rfl hl.1 rfl (Nat.le_of_ble_eq_true rfl) dL_write_4 ⟨Nat.le_of_ble_eq_true rfl, Nat.le_of_ble_eq_true rfl⟩ (fun ce q9 H locs hk hP hD hS hce hcv hcl => ?_) (fun H locs hk hP hD hS => ?_)
  · rw [if_neg hk] at hf
    by_cases h1 : r.1 = 1
    · rw [if_pos h1] at hf
      cases hf
      rw [h1] at hcl
      have hcl : s.vm.findClass "java/lang/IllegalArgumentException" = some ce.cls := hcl
      refine vx_catch (own := RL) (name := "java/lang/IllegalArgumentException") (E := "java/lang/IllegalArgumentException") hown [] ⟨0, 9, 12, 19⟩ [] htab (fun z hz => by cases hz) (by decide) (by decide) (hts _ wi_303) (va_Nw.use rfl (hxh.1.2.2.2 _ List.mem_cons_self)) hce hcv hcl ?_
      refine W.eq (g2 := F0 m 12 ls [.ref q9]) rfl ?_
      refine lv_astore_n (lv' := [(3, .ref q9), (0, .ref (Q 0 0)), (1, .int a1), (2, .ref (qO 0))]) hx hb dL_write_12 rfl hl (by decide) rfl (fun ls hl => ?_)
      refine lv_iconst (v := 1) hx hb dL_write_13 (by decide) ?_
      exact W.iret hx hb hr (fun t ht hW => ⟨⟨_, (), rfl, rfl, toT ht hP⟩, hS.F ht⟩) hS.2.2 dL_write_14 hlocks
    · rw [if_neg h1] at hf
      cases hf
  · rw [if_pos hk] at hf
    cases hf
    refine lv_i2l (v := r.2.1.toInt64) hx hb dL_write_7 rfl ?_
    refine va_last hx hb hK.1 hP hD hS 47 1 rfl rfl (inb_in (by decide)) dL_write_8 (fun H locs hP hD hS => ?_)
    have hP := sO_P hP
    refine lv_goto (tgt := 15) hx hb dL_write_9 (by decide) ?_
    refine lv_iconst (v := 0) hx hb dL_write_15 (by decide) ?_
    exact W.iret hx hb hr (fun t ht hW => ⟨⟨_, (), rfl, rfl, toT ht hP⟩, hS.F ht⟩) hS.2.2 dL_write_16 hlocks
theorem cw_L_write {R : Room} {s : State} {args : Array Value} {index : Nat} (ht : ∀ w ∈ wd, w.before args s = true) (hlink : Cond.methodLink RL index yL_write ∈ wd) (hR : rm_L_write.frames + 1 ≤ R.frames ∧ 8 + (4 + 11) + rm_L_write.locals ≤ R.locals) : vx_CSW R s args RL index yL_write cL_write 4 (some .int) [(0, 9, 12, 19)] (Cond.codeWith yL_write cL_write 4 (some .int) [(0, 9, 12, 19)] :: wd) rm_L_write 1 6 3 := cwH9 3 ht wh_L_write wi_465 wi_54 hlink (by decide +kernel) rfl rfl hR
theorem wh_L_add : Cond.codeWith yL_add cL_add 8 (some .int) [(0, 16, 19, 19), (0, 16, 23, 13)] ∈ wd := wd_2 (List.mem_of_getElem? (i := 238) rfl) rfl
def f_L_add (zD : DeskS) (zO : OutS) (a1 : Int32) (a2 : Int32) (a3 : Int32) (a4 : Int32) (a5 : Int32) : Option (Int32 × DeskS × OutS) := (f_X6_add zD a1 a2 a3 a4 a5).bind fun r => if r.1 = 0 then some ((0 : Int32), r.2.2, vp_updL zO (0 : Int32).toNatClampNeg r.2.1.toInt64) else if r.1 = 1 then some ((1 : Int32), r.2.2, zO) else if r.1 = 2 then some ((2 : Int32), r.2.2, zO) else none
def rm_L_add : Room := { frames := 7, cells := 1, slots := 6, locals := 141 }
set_option maxHeartbeats 4000000 in
set_option maxRecDepth 100000 in
theorem m_L_add (l : Launch) (htr : l.stackTraces = false) (G : va_G) (cA : Nat → ClassId) (sa : Nat → Nat) (Q : Nat → Nat → Nat) (qO : Nat → Nat) (zD : DeskS) (zO : OutS) (a1 : Int32) (a2 : Int32) (a3 : Int32) (a4 : Int32) (a5 : Int32) (res : Int32 × DeskS × OutS) (hf : f_L_add zD zO a1 a2 a3 a4 a5 = some res) : MHi l yL_add (Cond.codeWith yL_add cL_add 8 (some .int) [(0, 16, 19, 19), (0, 16, 23, 13)] :: wd) rm_L_add G cA sa [.ref (Q 0 0), .int a1, .int a2, .int a3, .int a4, .int a5, .ref (qO 0)] (wDesk cA Q zD ++ wOut cA qO zO) (wDesk cA Q res.2.1 ++ wOut cA qO res.2.2) res.1 := by
  refine va_MetW (cc := cL_add) (maxL := 8) (ret := (some .int)) (hh := [(0, 16, 19, 19), (0, 16, 23, 13)]) (by decide) rfl ?_
  intro p e s m args below meth c s₁ B hml hv
  obtain ⟨rfl, hK, hP, hD0, hxh⟩ := hv
  have hx := B.exec
  have hb := B.bytes
  have hr := B.returns
  have hlocks := B.notSynchronized
  have hts0 := atoms_spec (ws := Cond.codeWith yL_add cL_add 8 (some .int) [(0, 16, 19, 19), (0, 16, 23, 13)] :: wd) B.pre
  have hts : ∀ w ∈ wd, w.before ([.ref (Q 0 0), .int a1, .int a2, .int a3, .int a4, .int a5, .ref (qO 0)] : List Value).toArray s = true := fun w h => hts0 w (List.mem_cons_of_mem _ h)
  have htab := vx_table (x := yL_add) B (hts0 _ List.mem_cons_self)
  have hown : s.vm.findClass RL = some m.cls := findClass_of_methodNamed B.named
  have hD := adr.self hD0
  have hS : va_S (adr (wDesk cA Q zD ++ wOut cA qO zO)) s.heap s.heap [] := va_S.rf
  have hl := lv_entry ([.ref (Q 0 0), .int a1, .int a2, .int a3, .int a4, .int a5, .ref (qO 0)]) (n := 8) (Nat.le_of_ble_eq_true rfl)
  rw [lg_entry_eq]
  generalize (lg_sl ([.ref (Q 0 0), .int a1, .int a2, .int a3, .int a4, .int a5, .ref (qO 0)]) ++ List.replicate (8 - (lg_sl ([.ref (Q 0 0), .int a1, .int a2, .int a3, .int a4, .int a5, .ref (qO 0)])).length) Slot.unset).toArray = ls at hl ⊢
  have hl : lv_has ls 8 [(0, .ref (Q 0 0)), (1, .int a1), (2, .int a2), (3, .int a3), (4, .int a4), (5, .int a5), (6, .ref (qO 0))] := hl
  unfold f_L_add at hf
  obtain ⟨r, hr1, hf⟩ := obd hf
  refine lv_aload hx hb dL_add_0 (lv_at hl 6 rfl) ?_
  refine lv_iconst (v := 0) hx hb dL_add_2 (by decide) ?_
  refine lv_aload_n hx hb dL_add_3 rfl (lv_at hl 0 rfl) ?_
  refine lv_iload_n hx hb dL_add_4 rfl (lv_at hl 1 rfl) ?_
  refine lv_iload_n hx hb dL_add_5 rfl (lv_at hl 2 rfl) ?_
  refine lv_iload_n hx hb dL_add_6 rfl (lv_at hl 3 rfl) ?_
  refine lv_iload hx hb dL_add_7 (lv_at hl 4 rfl) ?_
  refine lv_iload hx hb dL_add_9 (lv_at hl 5 rfl) ?_
  refine cXiV (As := [.int a1, .int a2, .int a3, .int a4, .int a5]) (rest := [.int 0, .ref (qO 0)]) (W1 := wDesk cA Q r.2.2 ++ wOut cA qO zO) ⟨hx, hb, hml, hown, hts⟩ (m_X6_add l G cA htr sa Q zD a1 a2 a3 a4 a5 r hr1) (cw_X6_add hts wi_533 ⟨Nat.le_of_ble_eq_true rfl, Nat.le_of_ble_eq_true rfl⟩) hK hP hD hS [0, 1, 2, 3, 4, 5, 6, 7, 8, 9, 10, 11, 12, 13, 14, 15, 16, 17, 18, 19, 20, 21, 22, 23, 24, 25, 26, 27, 28, 29, 30, 31, 32, 33, 34, 35, 36, 37, 38, 39, 40, 41, 42, 43, 44, 45, 46] [48, 49, 50, 51, 52, 53, 54, 55, 56, 57, 58, 59, 60, 61, 62, 63, 64, 65, 66, 67, 68, 69, 70, 71, 72, 73, 74, 75, 76, 77, 78, 79, 80, 81, 82, 83, 84, 85, 86, 87, 88, 89, 90, 91, 92, 93, 94, 47] rfl rfl rfl (by decide) rfl hxh.1 (va_recv hK.1 hP (ci := 4) (q0 := 0) rfl rfl) rfl hl.1 rfl (Nat.le_of_ble_eq_true rfl) dL_add_11 ⟨Nat.le_of_ble_eq_true rfl, Nat.le_of_ble_eq_true rfl⟩ (fun ce q9 H locs hk hP hD hS hce hcv hcl => ?_) (fun H locs hk hP hD hS => ?_)
  · rw [if_neg hk] at hf
    by_cases h1 : r.1 = 1
    · rw [if_pos h1] at hf
      cases hf
      rw [h1] at hcl
      have hcl : s.vm.findClass "java/lang/IllegalArgumentException" = some ce.cls := hcl
      refine vx_catch (own := RL) (name := "java/lang/IllegalArgumentException") (E := "java/lang/IllegalArgumentException") hown [] ⟨0, 16, 19, 19⟩ [⟨0, 16, 23, 13⟩] htab (fun z hz => by cases hz) (by decide) (by decide) (hts _ wi_303) (va_Nw.use rfl (hxh.1.2.2.2 _ List.mem_cons_self)) hce hcv hcl ?_
      refine W.eq (g2 := F0 m 19 ls [.ref q9]) rfl ?_
      refine lv_astore (lv' := [(7, .ref q9), (0, .ref (Q 0 0)), (1, .int a1), (2, .int a2), (3, .int a3), (4, .int a4), (5, .int a5), (6, .ref (qO 0))]) hx hb dL_add_19 hl (by decide) rfl (fun ls hl => ?_)
      refine lv_iconst (v := 1) hx hb dL_add_21 (by decide) ?_
      exact W.iret hx hb hr (fun t ht hW => ⟨⟨_, (), rfl, rfl, toT ht hP⟩, hS.F ht⟩) hS.2.2 dL_add_22 hlocks
    · rw [if_neg h1] at hf
      by_cases h2 : r.1 = 2
      · rw [if_pos h2] at hf
        cases hf
        rw [h2] at hcl
        have hcl : s.vm.findClass "java/lang/IllegalStateException" = some ce.cls := hcl
        refine vx_catch (own := RL) (name := "java/lang/IllegalStateException") (E := "java/lang/IllegalStateException") hown [⟨0, 16, 19, 19⟩] ⟨0, 16, 23, 13⟩ [] htab (fun z hz => Or.inr (by rw [List.mem_singleton.mp hz]; exact ⟨by decide, "java/lang/IllegalArgumentException", hts _ wi_303, hxh.2⟩)) (by decide) (by decide) (hts _ wi_221) (va_Nw.use rfl (hxh.1.2.2.2 _ (List.mem_cons_of_mem _ List.mem_cons_self))) hce hcv hcl ?_
        refine W.eq (g2 := F0 m 23 ls [.ref q9]) rfl ?_
        refine lv_astore (lv' := [(7, .ref q9), (0, .ref (Q 0 0)), (1, .int a1), (2, .int a2), (3, .int a3), (4, .int a4), (5, .int a5), (6, .ref (qO 0))]) hx hb dL_add_23 hl (by decide) rfl (fun ls hl => ?_)
        refine lv_iconst (v := 2) hx hb dL_add_25 (by decide) ?_
        exact W.iret hx hb hr (fun t ht hW => ⟨⟨_, (), rfl, rfl, toT ht hP⟩, hS.F ht⟩) hS.2.2 dL_add_26 hlocks
      · rw [if_neg h2] at hf
        cases hf
  · rw [if_pos hk] at hf
    cases hf
    refine lv_i2l (v := r.2.1.toInt64) hx hb dL_add_14 rfl ?_
    refine va_last hx hb hK.1 hP hD hS 47 1 rfl rfl (inb_in (by decide)) dL_add_15 (fun H locs hP hD hS => ?_)
    have hP := sO_P hP
    refine lv_goto (tgt := 27) hx hb dL_add_16 (by decide) ?_
    refine lv_iconst (v := 0) hx hb dL_add_27 (by decide) ?_
    exact W.iret hx hb hr (fun t ht hW => ⟨⟨_, (), rfl, rfl, toT ht hP⟩, hS.F ht⟩) hS.2.2 dL_add_28 hlocks
theorem cw_L_add {R : Room} {s : State} {args : Array Value} {index : Nat} (ht : ∀ w ∈ wd, w.before args s = true) (hlink : Cond.methodLink RL index yL_add ∈ wd) (hR : rm_L_add.frames + 1 ≤ R.frames ∧ 8 + (8 + 11) + rm_L_add.locals ≤ R.locals) : vx_CSW R s args RL index yL_add cL_add 8 (some .int) [(0, 16, 19, 19), (0, 16, 23, 13)] (Cond.codeWith yL_add cL_add 8 (some .int) [(0, 16, 19, 19), (0, 16, 23, 13)] :: wd) rm_L_add 1 6 7 := cwH9 7 ht wh_L_add wi_531 wi_54 hlink (by decide +kernel) rfl rfl hR
theorem wh_L_times : Cond.codeWith yL_times cL_times 6 (some .int) [(0, 12, 15, 19), (0, 12, 19, 13)] ∈ wd := wd_3 (List.mem_of_getElem? (i := 18) rfl) rfl
def f_L_times (zD : DeskS) (zO : OutS) (a1 : Int32) (a2 : Int32) (a3 : Int32) : Option (Int32 × DeskS × OutS) := (f_X6_times zD a1 a2 a3).bind fun r => if r.1 = 0 then some ((0 : Int32), r.2.2, vp_updL zO (0 : Int32).toNatClampNeg r.2.1.toInt64) else if r.1 = 1 then some ((1 : Int32), r.2.2, zO) else if r.1 = 2 then some ((2 : Int32), r.2.2, zO) else none
def rm_L_times : Room := { frames := 7, cells := 1, slots := 6, locals := 199 }
set_option maxHeartbeats 4000000 in
set_option maxRecDepth 100000 in
theorem m_L_times (l : Launch) (htr : l.stackTraces = false) (G : va_G) (cA : Nat → ClassId) (sa : Nat → Nat) (Q : Nat → Nat → Nat) (qO : Nat → Nat) (zD : DeskS) (zO : OutS) (a1 : Int32) (a2 : Int32) (a3 : Int32) (res : Int32 × DeskS × OutS) (hf : f_L_times zD zO a1 a2 a3 = some res) : MHi l yL_times (Cond.codeWith yL_times cL_times 6 (some .int) [(0, 12, 15, 19), (0, 12, 19, 13)] :: wd) rm_L_times G cA sa [.ref (Q 0 0), .int a1, .int a2, .int a3, .ref (qO 0)] (wDesk cA Q zD ++ wOut cA qO zO) (wDesk cA Q res.2.1 ++ wOut cA qO res.2.2) res.1 := by
  refine va_MetW (cc := cL_times) (maxL := 6) (ret := (some .int)) (hh := [(0, 12, 15, 19), (0, 12, 19, 13)]) (by decide) rfl ?_
  intro p e s m args below meth c s₁ B hml hv
  obtain ⟨rfl, hK, hP, hD0, hxh⟩ := hv
  have hx := B.exec
  have hb := B.bytes
  have hr := B.returns
  have hlocks := B.notSynchronized
  have hts0 := atoms_spec (ws := Cond.codeWith yL_times cL_times 6 (some .int) [(0, 12, 15, 19), (0, 12, 19, 13)] :: wd) B.pre
  have hts : ∀ w ∈ wd, w.before ([.ref (Q 0 0), .int a1, .int a2, .int a3, .ref (qO 0)] : List Value).toArray s = true := fun w h => hts0 w (List.mem_cons_of_mem _ h)
  have htab := vx_table (x := yL_times) B (hts0 _ List.mem_cons_self)
  have hown : s.vm.findClass RL = some m.cls := findClass_of_methodNamed B.named
  have hD := adr.self hD0
  have hS : va_S (adr (wDesk cA Q zD ++ wOut cA qO zO)) s.heap s.heap [] := va_S.rf
  have hl := lv_entry ([.ref (Q 0 0), .int a1, .int a2, .int a3, .ref (qO 0)]) (n := 6) (Nat.le_of_ble_eq_true rfl)
  rw [lg_entry_eq]
  generalize (lg_sl ([.ref (Q 0 0), .int a1, .int a2, .int a3, .ref (qO 0)]) ++ List.replicate (6 - (lg_sl ([.ref (Q 0 0), .int a1, .int a2, .int a3, .ref (qO 0)])).length) Slot.unset).toArray = ls at hl ⊢
  have hl : lv_has ls 6 [(0, .ref (Q 0 0)), (1, .int a1), (2, .int a2), (3, .int a3), (4, .ref (qO 0))] := hl
  unfold f_L_times at hf
  obtain ⟨r, hr1, hf⟩ := obd hf
  refine lv_aload hx hb dL_times_0 (lv_at hl 4 rfl) ?_
  refine lv_iconst (v := 0) hx hb dL_times_2 (by decide) ?_
  refine lv_aload_n hx hb dL_times_3 rfl (lv_at hl 0 rfl) ?_
  refine lv_iload_n hx hb dL_times_4 rfl (lv_at hl 1 rfl) ?_
  refine lv_iload_n hx hb dL_times_5 rfl (lv_at hl 2 rfl) ?_
  refine lv_iload_n hx hb dL_times_6 rfl (lv_at hl 3 rfl) ?_
  refine cXiV (As := [.int a1, .int a2, .int a3]) (rest := [.int 0, .ref (qO 0)]) (W1 := wDesk cA Q r.2.2 ++ wOut cA qO zO) ⟨hx, hb, hml, hown, hts⟩ (m_X6_times l G cA htr sa Q zD a1 a2 a3 r hr1) (cw_X6_times hts wi_553 ⟨Nat.le_of_ble_eq_true rfl, Nat.le_of_ble_eq_true rfl⟩) hK hP hD hS [0, 1, 2, 3, 4, 5, 6, 7, 8, 9, 10, 11, 12, 13, 14, 15, 16, 17, 18, 19, 20, 21, 22, 23, 24, 25, 26, 27, 28, 29, 30, 31, 32, 33, 34, 35, 36, 37, 38, 39, 40, 41, 42, 43, 44, 45, 46] [48, 49, 50, 51, 52, 53, 54, 55, 56, 57, 58, 59, 60, 61, 62, 63, 64, 65, 66, 67, 68, 69, 70, 71, 72, 73, 74, 75, 76, 77, 78, 79, 80, 81, 82, 83, 84, 85, 86, 87, 88, 89, 90, 91, 92, 93, 94, 47] rfl rfl rfl (by decide) rfl hxh.1 (va_recv hK.1 hP (ci := 4) (q0 := 0) rfl rfl) rfl hl.1 rfl (Nat.le_of_ble_eq_true rfl) dL_times_7 ⟨Nat.le_of_ble_eq_true rfl, Nat.le_of_ble_eq_true rfl⟩ (fun ce q9 H locs hk hP hD hS hce hcv hcl => ?_) (fun H locs hk hP hD hS => ?_)
  · rw [if_neg hk] at hf
    by_cases h1 : r.1 = 1
    · rw [if_pos h1] at hf
      cases hf
      rw [h1] at hcl
      have hcl : s.vm.findClass "java/lang/IllegalArgumentException" = some ce.cls := hcl
      refine vx_catch (own := RL) (name := "java/lang/IllegalArgumentException") (E := "java/lang/IllegalArgumentException") hown [] ⟨0, 12, 15, 19⟩ [⟨0, 12, 19, 13⟩] htab (fun z hz => by cases hz) (by decide) (by decide) (hts _ wi_303) (va_Nw.use rfl (hxh.1.2.2.2 _ List.mem_cons_self)) hce hcv hcl ?_
      refine W.eq (g2 := F0 m 15 ls [.ref q9]) rfl ?_
      refine lv_astore (lv' := [(5, .ref q9), (0, .ref (Q 0 0)), (1, .int a1), (2, .int a2), (3, .int a3), (4, .ref (qO 0))]) hx hb dL_times_15 hl (by decide) rfl (fun ls hl => ?_)
      refine lv_iconst (v := 1) hx hb dL_times_17 (by decide) ?_
      exact W.iret hx hb hr (fun t ht hW => ⟨⟨_, (), rfl, rfl, toT ht hP⟩, hS.F ht⟩) hS.2.2 dL_times_18 hlocks
    · rw [if_neg h1] at hf
      by_cases h2 : r.1 = 2
      · rw [if_pos h2] at hf
        cases hf
        rw [h2] at hcl
        have hcl : s.vm.findClass "java/lang/IllegalStateException" = some ce.cls := hcl
        refine vx_catch (own := RL) (name := "java/lang/IllegalStateException") (E := "java/lang/IllegalStateException") hown [⟨0, 12, 15, 19⟩] ⟨0, 12, 19, 13⟩ [] htab (fun z hz => Or.inr (by rw [List.mem_singleton.mp hz]; exact ⟨by decide, "java/lang/IllegalArgumentException", hts _ wi_303, hxh.2⟩)) (by decide) (by decide) (hts _ wi_221) (va_Nw.use rfl (hxh.1.2.2.2 _ (List.mem_cons_of_mem _ List.mem_cons_self))) hce hcv hcl ?_
        refine W.eq (g2 := F0 m 19 ls [.ref q9]) rfl ?_
        refine lv_astore (lv' := [(5, .ref q9), (0, .ref (Q 0 0)), (1, .int a1), (2, .int a2), (3, .int a3), (4, .ref (qO 0))]) hx hb dL_times_19 hl (by decide) rfl (fun ls hl => ?_)
        refine lv_iconst (v := 2) hx hb dL_times_21 (by decide) ?_
        exact W.iret hx hb hr (fun t ht hW => ⟨⟨_, (), rfl, rfl, toT ht hP⟩, hS.F ht⟩) hS.2.2 dL_times_22 hlocks
      · rw [if_neg h2] at hf
        cases hf
  · rw [if_pos hk] at hf
    cases hf
    refine lv_i2l (v := r.2.1.toInt64) hx hb dL_times_10 rfl ?_
    refine va_last hx hb hK.1 hP hD hS 47 1 rfl rfl (inb_in (by decide)) dL_times_11 (fun H locs hP hD hS => ?_)
    have hP := sO_P hP
    refine lv_goto (tgt := 23) hx hb dL_times_12 (by decide) ?_
    refine lv_iconst (v := 0) hx hb dL_times_23 (by decide) ?_
    exact W.iret hx hb hr (fun t ht hW => ⟨⟨_, (), rfl, rfl, toT ht hP⟩, hS.F ht⟩) hS.2.2 dL_times_24 hlocks
theorem cw_L_times {R : Room} {s : State} {args : Array Value} {index : Nat} (ht : ∀ w ∈ wd, w.before args s = true) (hlink : Cond.methodLink RL index yL_times ∈ wd) (hR : rm_L_times.frames + 1 ≤ R.frames ∧ 8 + (6 + 11) + rm_L_times.locals ≤ R.locals) : vx_CSW R s args RL index yL_times cL_times 6 (some .int) [(0, 12, 15, 19), (0, 12, 19, 13)] (Cond.codeWith yL_times cL_times 6 (some .int) [(0, 12, 15, 19), (0, 12, 19, 13)] :: wd) rm_L_times 1 6 5 := cwH9 5 ht wh_L_times wi_551 wi_54 hlink (by decide +kernel) rfl rfl hR
theorem wh_L_derive : Cond.codeWith yL_derive cL_derive 5 (some .int) [(0, 10, 13, 19)] ∈ wd := wd_3 (List.mem_of_getElem? (i := 55) rfl) rfl
def f_L_derive (zD : DeskS) (zO : OutS) (a1 : Int32) (a2 : Int32) : Option (Int32 × DeskS × OutS) := (f_X6_derive zD a1 a2).bind fun r => if r.1 = 0 then some ((0 : Int32), r.2.2, vp_updL zO (0 : Int32).toNatClampNeg r.2.1.toInt64) else if r.1 = 1 then some ((1 : Int32), r.2.2, zO) else none
def rm_L_derive : Room := { frames := 7, cells := 1, slots := 6, locals := 169 }
set_option maxHeartbeats 4000000 in
set_option maxRecDepth 100000 in
theorem m_L_derive (l : Launch) (htr : l.stackTraces = false) (G : va_G) (cA : Nat → ClassId) (sa : Nat → Nat) (Q : Nat → Nat → Nat) (qO : Nat → Nat) (zD : DeskS) (zO : OutS) (a1 : Int32) (a2 : Int32) (res : Int32 × DeskS × OutS) (hf : f_L_derive zD zO a1 a2 = some res) : MHi l yL_derive (Cond.codeWith yL_derive cL_derive 5 (some .int) [(0, 10, 13, 19)] :: wd) rm_L_derive G cA sa [.ref (Q 0 0), .int a1, .int a2, .ref (qO 0)] (wDesk cA Q zD ++ wOut cA qO zO) (wDesk cA Q res.2.1 ++ wOut cA qO res.2.2) res.1 := by
  refine va_MetW (cc := cL_derive) (maxL := 5) (ret := (some .int)) (hh := [(0, 10, 13, 19)]) (by decide) rfl ?_
  intro p e s m args below meth c s₁ B hml hv
  obtain ⟨rfl, hK, hP, hD0, hxh⟩ := hv
  have hx := B.exec
  have hb := B.bytes
  have hr := B.returns
  have hlocks := B.notSynchronized
  have hts0 := atoms_spec (ws := Cond.codeWith yL_derive cL_derive 5 (some .int) [(0, 10, 13, 19)] :: wd) B.pre
  have hts : ∀ w ∈ wd, w.before ([.ref (Q 0 0), .int a1, .int a2, .ref (qO 0)] : List Value).toArray s = true := fun w h => hts0 w (List.mem_cons_of_mem _ h)
  have htab := vx_table (x := yL_derive) B (hts0 _ List.mem_cons_self)
  have hown : s.vm.findClass RL = some m.cls := findClass_of_methodNamed B.named
  have hD := adr.self hD0
  have hS : va_S (adr (wDesk cA Q zD ++ wOut cA qO zO)) s.heap s.heap [] := va_S.rf
  have hl := lv_entry ([.ref (Q 0 0), .int a1, .int a2, .ref (qO 0)]) (n := 5) (Nat.le_of_ble_eq_true rfl)
  rw [lg_entry_eq]
  generalize (lg_sl ([.ref (Q 0 0), .int a1, .int a2, .ref (qO 0)]) ++ List.replicate (5 - (lg_sl ([.ref (Q 0 0), .int a1, .int a2, .ref (qO 0)])).length) Slot.unset).toArray = ls at hl ⊢
  have hl : lv_has ls 5 [(0, .ref (Q 0 0)), (1, .int a1), (2, .int a2), (3, .ref (qO 0))] := hl
  unfold f_L_derive at hf
  obtain ⟨r, hr1, hf⟩ := obd hf
  refine lv_aload_n hx hb dL_derive_0 rfl (lv_at hl 3 rfl) ?_
  refine lv_iconst (v := 0) hx hb dL_derive_1 (by decide) ?_
  refine lv_aload_n hx hb dL_derive_2 rfl (lv_at hl 0 rfl) ?_
  refine lv_iload_n hx hb dL_derive_3 rfl (lv_at hl 1 rfl) ?_
  refine lv_iload_n hx hb dL_derive_4 rfl (lv_at hl 2 rfl) ?_
  refine cXiV (As := [.int a1, .int a2]) (rest := [.int 0, .ref (qO 0)]) (W1 := wDesk cA Q r.2.2 ++ wOut cA qO zO) ⟨hx, hb, hml, hown, hts⟩ (m_X6_derive l G cA htr sa Q zD a1 a2 r hr1) (cw_X6_derive hts wi_590 ⟨Nat.le_of_ble_eq_true rfl, Nat.le_of_ble_eq_true rfl⟩) hK hP hD hS [0, 1, 2, 3, 4, 5, 6, 7, 8, 9, 10, 11, 12, 13, 14, 15, 16, 17, 18, 19, 20, 21, 22, 23, 24, 25, 26, 27, 28, 29, 30, 31, 32, 33, 34, 35, 36, 37, 38, 39, 40, 41, 42, 43, 44, 45, 46] [48, 49, 50, 51, 52, 53, 54, 55, 56, 57, 58, 59, 60, 61, 62, 63, 64, 65, 66, 67, 68, 69, 70, 71, 72, 73, 74, 75, 76, 77, 78, 79, 80, 81, 82, 83, 84, 85, 86, 87, 88, 89, 90, 91, 92, 93, 94, 47] rfl rfl rfl (by decide) rfl hxh.1 (va_recv hK.1 hP (ci := 4) (q0 := 0) rfl rfl) rfl hl.1 rfl (Nat.le_of_ble_eq_true rfl) dL_derive_5 ⟨Nat.le_of_ble_eq_true rfl, Nat.le_of_ble_eq_true rfl⟩ (fun ce q9 H locs hk hP hD hS hce hcv hcl => ?_) (fun H locs hk hP hD hS => ?_)
  · rw [if_neg hk] at hf
    by_cases h1 : r.1 = 1
    · rw [if_pos h1] at hf
      cases hf
      rw [h1] at hcl
      have hcl : s.vm.findClass "java/lang/IllegalArgumentException" = some ce.cls := hcl
      refine vx_catch (own := RL) (name := "java/lang/IllegalArgumentException") (E := "java/lang/IllegalArgumentException") hown [] ⟨0, 10, 13, 19⟩ [] htab (fun z hz => by cases hz) (by decide) (by decide) (hts _ wi_303) (va_Nw.use rfl (hxh.1.2.2.2 _ List.mem_cons_self)) hce hcv hcl ?_
      refine W.eq (g2 := F0 m 13 ls [.ref q9]) rfl ?_
      refine lv_astore (lv' := [(4, .ref q9), (0, .ref (Q 0 0)), (1, .int a1), (2, .int a2), (3, .ref (qO 0))]) hx hb dL_derive_13 hl (by decide) rfl (fun ls hl => ?_)
      refine lv_iconst (v := 1) hx hb dL_derive_15 (by decide) ?_
      exact W.iret hx hb hr (fun t ht hW => ⟨⟨_, (), rfl, rfl, toT ht hP⟩, hS.F ht⟩) hS.2.2 dL_derive_16 hlocks
    · rw [if_neg h1] at hf
      cases hf
  · rw [if_pos hk] at hf
    cases hf
    refine lv_i2l (v := r.2.1.toInt64) hx hb dL_derive_8 rfl ?_
    refine va_last hx hb hK.1 hP hD hS 47 1 rfl rfl (inb_in (by decide)) dL_derive_9 (fun H locs hP hD hS => ?_)
    have hP := sO_P hP
    refine lv_goto (tgt := 17) hx hb dL_derive_10 (by decide) ?_
    refine lv_iconst (v := 0) hx hb dL_derive_17 (by decide) ?_
    exact W.iret hx hb hr (fun t ht hW => ⟨⟨_, (), rfl, rfl, toT ht hP⟩, hS.F ht⟩) hS.2.2 dL_derive_18 hlocks
theorem cw_L_derive {R : Room} {s : State} {args : Array Value} {index : Nat} (ht : ∀ w ∈ wd, w.before args s = true) (hlink : Cond.methodLink RL index yL_derive ∈ wd) (hR : rm_L_derive.frames + 1 ≤ R.frames ∧ 8 + (5 + 11) + rm_L_derive.locals ≤ R.locals) : vx_CSW R s args RL index yL_derive cL_derive 5 (some .int) [(0, 10, 13, 19)] (Cond.codeWith yL_derive cL_derive 5 (some .int) [(0, 10, 13, 19)] :: wd) rm_L_derive 1 6 4 := cwH9 4 ht wh_L_derive wi_588 wi_54 hlink (by decide +kernel) rfl rfl hR
theorem wh_L_integrate : Cond.codeWith yL_integrate cL_integrate 6 (some .int) [(0, 12, 15, 19), (0, 12, 19, 13)] ∈ wd := wd_3 (List.mem_of_getElem? (i := 78) rfl) rfl
def f_L_integrate (zD : DeskS) (zO : OutS) (a1 : Int32) (a2 : Int32) (a3 : Int32) : Option (Int32 × DeskS × OutS) := (f_X6_integrate zD a1 a2 a3).bind fun r => if r.1 = 0 then some ((0 : Int32), r.2.2, vp_updL zO (0 : Int32).toNatClampNeg r.2.1.toInt64) else if r.1 = 1 then some ((1 : Int32), r.2.2, zO) else if r.1 = 2 then some ((2 : Int32), r.2.2, zO) else none
def rm_L_integrate : Room := { frames := 7, cells := 1, slots := 6, locals := 205 }
set_option maxHeartbeats 4000000 in
set_option maxRecDepth 100000 in
theorem m_L_integrate (l : Launch) (htr : l.stackTraces = false) (G : va_G) (cA : Nat → ClassId) (sa : Nat → Nat) (Q : Nat → Nat → Nat) (qO : Nat → Nat) (zD : DeskS) (zO : OutS) (a1 : Int32) (a2 : Int32) (a3 : Int32) (res : Int32 × DeskS × OutS) (hf : f_L_integrate zD zO a1 a2 a3 = some res) : MHi l yL_integrate (Cond.codeWith yL_integrate cL_integrate 6 (some .int) [(0, 12, 15, 19), (0, 12, 19, 13)] :: wd) rm_L_integrate G cA sa [.ref (Q 0 0), .int a1, .int a2, .int a3, .ref (qO 0)] (wDesk cA Q zD ++ wOut cA qO zO) (wDesk cA Q res.2.1 ++ wOut cA qO res.2.2) res.1 := by
  refine va_MetW (cc := cL_integrate) (maxL := 6) (ret := (some .int)) (hh := [(0, 12, 15, 19), (0, 12, 19, 13)]) (by decide) rfl ?_
  intro p e s m args below meth c s₁ B hml hv
  obtain ⟨rfl, hK, hP, hD0, hxh⟩ := hv
  have hx := B.exec
  have hb := B.bytes
  have hr := B.returns
  have hlocks := B.notSynchronized
  have hts0 := atoms_spec (ws := Cond.codeWith yL_integrate cL_integrate 6 (some .int) [(0, 12, 15, 19), (0, 12, 19, 13)] :: wd) B.pre
  have hts : ∀ w ∈ wd, w.before ([.ref (Q 0 0), .int a1, .int a2, .int a3, .ref (qO 0)] : List Value).toArray s = true := fun w h => hts0 w (List.mem_cons_of_mem _ h)
  have htab := vx_table (x := yL_integrate) B (hts0 _ List.mem_cons_self)
  have hown : s.vm.findClass RL = some m.cls := findClass_of_methodNamed B.named
  have hD := adr.self hD0
  have hS : va_S (adr (wDesk cA Q zD ++ wOut cA qO zO)) s.heap s.heap [] := va_S.rf
  have hl := lv_entry ([.ref (Q 0 0), .int a1, .int a2, .int a3, .ref (qO 0)]) (n := 6) (Nat.le_of_ble_eq_true rfl)
  rw [lg_entry_eq]
  generalize (lg_sl ([.ref (Q 0 0), .int a1, .int a2, .int a3, .ref (qO 0)]) ++ List.replicate (6 - (lg_sl ([.ref (Q 0 0), .int a1, .int a2, .int a3, .ref (qO 0)])).length) Slot.unset).toArray = ls at hl ⊢
  have hl : lv_has ls 6 [(0, .ref (Q 0 0)), (1, .int a1), (2, .int a2), (3, .int a3), (4, .ref (qO 0))] := hl
  unfold f_L_integrate at hf
  obtain ⟨r, hr1, hf⟩ := obd hf
  refine lv_aload hx hb dL_integrate_0 (lv_at hl 4 rfl) ?_
  refine lv_iconst (v := 0) hx hb dL_integrate_2 (by decide) ?_
  refine lv_aload_n hx hb dL_integrate_3 rfl (lv_at hl 0 rfl) ?_
  refine lv_iload_n hx hb dL_integrate_4 rfl (lv_at hl 1 rfl) ?_
  refine lv_iload_n hx hb dL_integrate_5 rfl (lv_at hl 2 rfl) ?_
  refine lv_iload_n hx hb dL_integrate_6 rfl (lv_at hl 3 rfl) ?_
  refine cXiV (As := [.int a1, .int a2, .int a3]) (rest := [.int 0, .ref (qO 0)]) (W1 := wDesk cA Q r.2.2 ++ wOut cA qO zO) ⟨hx, hb, hml, hown, hts⟩ (m_X6_integrate l G cA htr sa Q zD a1 a2 a3 r hr1) (cw_X6_integrate hts wi_613 ⟨Nat.le_of_ble_eq_true rfl, Nat.le_of_ble_eq_true rfl⟩) hK hP hD hS [0, 1, 2, 3, 4, 5, 6, 7, 8, 9, 10, 11, 12, 13, 14, 15, 16, 17, 18, 19, 20, 21, 22, 23, 24, 25, 26, 27, 28, 29, 30, 31, 32, 33, 34, 35, 36, 37, 38, 39, 40, 41, 42, 43, 44, 45, 46] [48, 49, 50, 51, 52, 53, 54, 55, 56, 57, 58, 59, 60, 61, 62, 63, 64, 65, 66, 67, 68, 69, 70, 71, 72, 73, 74, 75, 76, 77, 78, 79, 80, 81, 82, 83, 84, 85, 86, 87, 88, 89, 90, 91, 92, 93, 94, 47] rfl rfl rfl (by decide) rfl hxh.1 (va_recv hK.1 hP (ci := 4) (q0 := 0) rfl rfl) rfl hl.1 rfl (Nat.le_of_ble_eq_true rfl) dL_integrate_7 ⟨Nat.le_of_ble_eq_true rfl, Nat.le_of_ble_eq_true rfl⟩ (fun ce q9 H locs hk hP hD hS hce hcv hcl => ?_) (fun H locs hk hP hD hS => ?_)
  · rw [if_neg hk] at hf
    by_cases h1 : r.1 = 1
    · rw [if_pos h1] at hf
      cases hf
      rw [h1] at hcl
      have hcl : s.vm.findClass "java/lang/IllegalArgumentException" = some ce.cls := hcl
      refine vx_catch (own := RL) (name := "java/lang/IllegalArgumentException") (E := "java/lang/IllegalArgumentException") hown [] ⟨0, 12, 15, 19⟩ [⟨0, 12, 19, 13⟩] htab (fun z hz => by cases hz) (by decide) (by decide) (hts _ wi_303) (va_Nw.use rfl (hxh.1.2.2.2 _ List.mem_cons_self)) hce hcv hcl ?_
      refine W.eq (g2 := F0 m 15 ls [.ref q9]) rfl ?_
      refine lv_astore (lv' := [(5, .ref q9), (0, .ref (Q 0 0)), (1, .int a1), (2, .int a2), (3, .int a3), (4, .ref (qO 0))]) hx hb dL_integrate_15 hl (by decide) rfl (fun ls hl => ?_)
      refine lv_iconst (v := 1) hx hb dL_integrate_17 (by decide) ?_
      exact W.iret hx hb hr (fun t ht hW => ⟨⟨_, (), rfl, rfl, toT ht hP⟩, hS.F ht⟩) hS.2.2 dL_integrate_18 hlocks
    · rw [if_neg h1] at hf
      by_cases h2 : r.1 = 2
      · rw [if_pos h2] at hf
        cases hf
        rw [h2] at hcl
        have hcl : s.vm.findClass "java/lang/IllegalStateException" = some ce.cls := hcl
        refine vx_catch (own := RL) (name := "java/lang/IllegalStateException") (E := "java/lang/IllegalStateException") hown [⟨0, 12, 15, 19⟩] ⟨0, 12, 19, 13⟩ [] htab (fun z hz => Or.inr (by rw [List.mem_singleton.mp hz]; exact ⟨by decide, "java/lang/IllegalArgumentException", hts _ wi_303, hxh.2⟩)) (by decide) (by decide) (hts _ wi_221) (va_Nw.use rfl (hxh.1.2.2.2 _ (List.mem_cons_of_mem _ List.mem_cons_self))) hce hcv hcl ?_
        refine W.eq (g2 := F0 m 19 ls [.ref q9]) rfl ?_
        refine lv_astore (lv' := [(5, .ref q9), (0, .ref (Q 0 0)), (1, .int a1), (2, .int a2), (3, .int a3), (4, .ref (qO 0))]) hx hb dL_integrate_19 hl (by decide) rfl (fun ls hl => ?_)
        refine lv_iconst (v := 2) hx hb dL_integrate_21 (by decide) ?_
        exact W.iret hx hb hr (fun t ht hW => ⟨⟨_, (), rfl, rfl, toT ht hP⟩, hS.F ht⟩) hS.2.2 dL_integrate_22 hlocks
      · rw [if_neg h2] at hf
        cases hf
  · rw [if_pos hk] at hf
    cases hf
    refine lv_i2l (v := r.2.1.toInt64) hx hb dL_integrate_10 rfl ?_
    refine va_last hx hb hK.1 hP hD hS 47 1 rfl rfl (inb_in (by decide)) dL_integrate_11 (fun H locs hP hD hS => ?_)
    have hP := sO_P hP
    refine lv_goto (tgt := 23) hx hb dL_integrate_12 (by decide) ?_
    refine lv_iconst (v := 0) hx hb dL_integrate_23 (by decide) ?_
    exact W.iret hx hb hr (fun t ht hW => ⟨⟨_, (), rfl, rfl, toT ht hP⟩, hS.F ht⟩) hS.2.2 dL_integrate_24 hlocks
theorem cw_L_integrate {R : Room} {s : State} {args : Array Value} {index : Nat} (ht : ∀ w ∈ wd, w.before args s = true) (hlink : Cond.methodLink RL index yL_integrate ∈ wd) (hR : rm_L_integrate.frames + 1 ≤ R.frames ∧ 8 + (6 + 11) + rm_L_integrate.locals ≤ R.locals) : vx_CSW R s args RL index yL_integrate cL_integrate 6 (some .int) [(0, 12, 15, 19), (0, 12, 19, 13)] (Cond.codeWith yL_integrate cL_integrate 6 (some .int) [(0, 12, 15, 19), (0, 12, 19, 13)] :: wd) rm_L_integrate 1 6 5 := cwH9 5 ht wh_L_integrate wi_611 wi_54 hlink (by decide +kernel) rfl rfl hR
theorem wh_L_same : Cond.codeWith yL_same cL_same 5 (some .int) [(0, 17, 20, 19)] ∈ wd := wd_3 (List.mem_of_getElem? (i := 101) rfl) rfl
def f_L_same (zD : DeskS) (zO : OutS) (a1 : Int32) (a2 : Int32) : Option (Int32 × DeskS × OutS) := (f_X6_same zD a1 a2).bind fun r => if r.1 = 0 then (if r.2.1 = 0 then some ((0 : Int32), r.2.2, vp_updL zO (0 : Int32).toNatClampNeg (0 : Int64)) else some ((0 : Int32), r.2.2, vp_updL zO (0 : Int32).toNatClampNeg (1 : Int64))) else if r.1 = 1 then some ((1 : Int32), r.2.2, zO) else none
def rm_L_same : Room := { frames := 7, cells := 1, slots := 6, locals := 112 }
set_option maxHeartbeats 4000000 in
set_option maxRecDepth 100000 in
theorem m_L_same (l : Launch) (htr : l.stackTraces = false) (G : va_G) (cA : Nat → ClassId) (sa : Nat → Nat) (Q : Nat → Nat → Nat) (qO : Nat → Nat) (zD : DeskS) (zO : OutS) (a1 : Int32) (a2 : Int32) (res : Int32 × DeskS × OutS) (hf : f_L_same zD zO a1 a2 = some res) : MHi l yL_same (Cond.codeWith yL_same cL_same 5 (some .int) [(0, 17, 20, 19)] :: wd) rm_L_same G cA sa [.ref (Q 0 0), .int a1, .int a2, .ref (qO 0)] (wDesk cA Q zD ++ wOut cA qO zO) (wDesk cA Q res.2.1 ++ wOut cA qO res.2.2) res.1 := by
  refine va_MetW (cc := cL_same) (maxL := 5) (ret := (some .int)) (hh := [(0, 17, 20, 19)]) (by decide) rfl ?_
  intro p e s m args below meth c s₁ B hml hv
  obtain ⟨rfl, hK, hP, hD0, hxh⟩ := hv
  have hx := B.exec
  have hb := B.bytes
  have hr := B.returns
  have hlocks := B.notSynchronized
  have hts0 := atoms_spec (ws := Cond.codeWith yL_same cL_same 5 (some .int) [(0, 17, 20, 19)] :: wd) B.pre
  have hts : ∀ w ∈ wd, w.before ([.ref (Q 0 0), .int a1, .int a2, .ref (qO 0)] : List Value).toArray s = true := fun w h => hts0 w (List.mem_cons_of_mem _ h)
  have htab := vx_table (x := yL_same) B (hts0 _ List.mem_cons_self)
  have hown : s.vm.findClass RL = some m.cls := findClass_of_methodNamed B.named
  have hD := adr.self hD0
  have hS : va_S (adr (wDesk cA Q zD ++ wOut cA qO zO)) s.heap s.heap [] := va_S.rf
  have hl := lv_entry ([.ref (Q 0 0), .int a1, .int a2, .ref (qO 0)]) (n := 5) (Nat.le_of_ble_eq_true rfl)
  rw [lg_entry_eq]
  generalize (lg_sl ([.ref (Q 0 0), .int a1, .int a2, .ref (qO 0)]) ++ List.replicate (5 - (lg_sl ([.ref (Q 0 0), .int a1, .int a2, .ref (qO 0)])).length) Slot.unset).toArray = ls at hl ⊢
  have hl : lv_has ls 5 [(0, .ref (Q 0 0)), (1, .int a1), (2, .int a2), (3, .ref (qO 0))] := hl
  unfold f_L_same at hf
  obtain ⟨r, hr1, hf⟩ := obd hf
  refine lv_aload_n hx hb dL_same_0 rfl (lv_at hl 3 rfl) ?_
  refine lv_iconst (v := 0) hx hb dL_same_1 (by decide) ?_
  refine lv_aload_n hx hb dL_same_2 rfl (lv_at hl 0 rfl) ?_
  refine lv_iload_n hx hb dL_same_3 rfl (lv_at hl 1 rfl) ?_
  refine lv_iload_n hx hb dL_same_4 rfl (lv_at hl 2 rfl) ?_
  refine cXiV (As := [.int a1, .int a2]) (rest := [.int 0, .ref (qO 0)]) (W1 := wDesk cA Q r.2.2 ++ wOut cA qO zO) ⟨hx, hb, hml, hown, hts⟩ (m_X6_same l G cA htr sa Q zD a1 a2 r hr1) (cw_X6_same hts wi_636 ⟨Nat.le_of_ble_eq_true rfl, Nat.le_of_ble_eq_true rfl⟩) hK hP hD hS [0, 1, 2, 3, 4, 5, 6, 7, 8, 9, 10, 11, 12, 13, 14, 15, 16, 17, 18, 19, 20, 21, 22, 23, 24, 25, 26, 27, 28, 29, 30, 31, 32, 33, 34, 35, 36, 37, 38, 39, 40, 41, 42, 43, 44, 45, 46] [48, 49, 50, 51, 52, 53, 54, 55, 56, 57, 58, 59, 60, 61, 62, 63, 64, 65, 66, 67, 68, 69, 70, 71, 72, 73, 74, 75, 76, 77, 78, 79, 80, 81, 82, 83, 84, 85, 86, 87, 88, 89, 90, 91, 92, 93, 94, 47] rfl rfl rfl (by decide) rfl hxh.1 (va_recv hK.1 hP (ci := 4) (q0 := 0) rfl rfl) rfl hl.1 rfl (Nat.le_of_ble_eq_true rfl) dL_same_5 ⟨Nat.le_of_ble_eq_true rfl, Nat.le_of_ble_eq_true rfl⟩ (fun ce q9 H locs hk hP hD hS hce hcv hcl => ?_) (fun H locs hk hP hD hS => ?_)
  · rw [if_neg hk] at hf
    by_cases h1 : r.1 = 1
    · rw [if_pos h1] at hf
      cases hf
      rw [h1] at hcl
      have hcl : s.vm.findClass "java/lang/IllegalArgumentException" = some ce.cls := hcl
      refine vx_catch (own := RL) (name := "java/lang/IllegalArgumentException") (E := "java/lang/IllegalArgumentException") hown [] ⟨0, 17, 20, 19⟩ [] htab (fun z hz => by cases hz) (by decide) (by decide) (hts _ wi_303) (va_Nw.use rfl (hxh.1.2.2.2 _ List.mem_cons_self)) hce hcv hcl ?_
      refine W.eq (g2 := F0 m 20 ls [.ref q9]) rfl ?_
      refine lv_astore (lv' := [(4, .ref q9), (0, .ref (Q 0 0)), (1, .int a1), (2, .int a2), (3, .ref (qO 0))]) hx hb dL_same_20 hl (by decide) rfl (fun ls hl => ?_)
      refine lv_iconst (v := 1) hx hb dL_same_22 (by decide) ?_
      exact W.iret hx hb hr (fun t ht hW => ⟨⟨_, (), rfl, rfl, toT ht hP⟩, hS.F ht⟩) hS.2.2 dL_same_23 hlocks
    · rw [if_neg h1] at hf
      cases hf
  · rw [if_pos hk] at hf
    refine lv_if_eq (tgt := 15) hx hb dL_same_8 (by decide) (fun c1 => ?_) (fun c1 => ?_)
    · rw [if_pos c1] at hf
      cases hf
      refine lv_lconst (v := (0 : Int64)) hx hb dL_same_15 (by decide) ?_
      refine va_last hx hb hK.1 hP hD hS 47 1 rfl rfl (inb_in (by decide)) dL_same_16 (fun H locs hP hD hS => ?_)
      have hP := sO_P hP
      refine lv_goto (tgt := 24) hx hb dL_same_17 (by decide) ?_
      refine lv_iconst (v := 0) hx hb dL_same_24 (by decide) ?_
      exact W.iret hx hb hr (fun t ht hW => ⟨⟨_, (), rfl, rfl, toT ht hP⟩, hS.F ht⟩) hS.2.2 dL_same_25 hlocks
    · rw [if_neg c1] at hf
      cases hf
      refine lv_lconst (v := (1 : Int64)) hx hb dL_same_11 (by decide) ?_
      refine lv_goto (tgt := 16) hx hb dL_same_12 (by decide) ?_
      refine va_last hx hb hK.1 hP hD hS 47 1 rfl rfl (inb_in (by decide)) dL_same_16 (fun H locs hP hD hS => ?_)
      have hP := sO_P hP
      refine lv_goto (tgt := 24) hx hb dL_same_17 (by decide) ?_
      refine lv_iconst (v := 0) hx hb dL_same_24 (by decide) ?_
      exact W.iret hx hb hr (fun t ht hW => ⟨⟨_, (), rfl, rfl, toT ht hP⟩, hS.F ht⟩) hS.2.2 dL_same_25 hlocks
theorem cw_L_same {R : Room} {s : State} {args : Array Value} {index : Nat} (ht : ∀ w ∈ wd, w.before args s = true) (hlink : Cond.methodLink RL index yL_same ∈ wd) (hR : rm_L_same.frames + 1 ≤ R.frames ∧ 8 + (5 + 11) + rm_L_same.locals ≤ R.locals) : vx_CSW R s args RL index yL_same cL_same 5 (some .int) [(0, 17, 20, 19)] (Cond.codeWith yL_same cL_same 5 (some .int) [(0, 17, 20, 19)] :: wd) rm_L_same 1 6 4 := cwH9 4 ht wh_L_same wi_634 wi_54 hlink (by decide +kernel) rfl rfl hR
theorem wh_L_terms : Cond.codeWith yL_terms cL_terms 4 (some .int) [(0, 9, 12, 19)] ∈ wd := wd_3 (List.mem_of_getElem? (i := 112) rfl) rfl
def f_L_terms (zD : DeskS) (zO : OutS) (a1 : Int32) : Option (Int32 × DeskS × OutS) := (f_X6_terms zD a1).bind fun r => if r.1 = 0 then some ((0 : Int32), r.2.2, vp_updL zO (0 : Int32).toNatClampNeg r.2.1.toInt64) else if r.1 = 1 then some ((1 : Int32), r.2.2, zO) else none
def rm_L_terms : Room := { frames := 7, cells := 1, slots := 6, locals := 111 }
set_option maxHeartbeats 4000000 in
set_option maxRecDepth 100000 in
theorem m_L_terms (l : Launch) (htr : l.stackTraces = false) (G : va_G) (cA : Nat → ClassId) (sa : Nat → Nat) (Q : Nat → Nat → Nat) (qO : Nat → Nat) (zD : DeskS) (zO : OutS) (a1 : Int32) (res : Int32 × DeskS × OutS) (hf : f_L_terms zD zO a1 = some res) : MHi l yL_terms (Cond.codeWith yL_terms cL_terms 4 (some .int) [(0, 9, 12, 19)] :: wd) rm_L_terms G cA sa [.ref (Q 0 0), .int a1, .ref (qO 0)] (wDesk cA Q zD ++ wOut cA qO zO) (wDesk cA Q res.2.1 ++ wOut cA qO res.2.2) res.1 := by
  refine va_MetW (cc := cL_terms) (maxL := 4) (ret := (some .int)) (hh := [(0, 9, 12, 19)]) (by decide) rfl ?_
  intro p e s m args below meth c s₁ B hml hv
  obtain ⟨rfl, hK, hP, hD0, hxh⟩ := hv
  have hx := B.exec
  have hb := B.bytes
  have hr := B.returns
  have hlocks := B.notSynchronized
  have hts0 := atoms_spec (ws := Cond.codeWith yL_terms cL_terms 4 (some .int) [(0, 9, 12, 19)] :: wd) B.pre
  have hts : ∀ w ∈ wd, w.before ([.ref (Q 0 0), .int a1, .ref (qO 0)] : List Value).toArray s = true := fun w h => hts0 w (List.mem_cons_of_mem _ h)
  have htab := vx_table (x := yL_terms) B (hts0 _ List.mem_cons_self)
  have hown : s.vm.findClass RL = some m.cls := findClass_of_methodNamed B.named
  have hD := adr.self hD0
  have hS : va_S (adr (wDesk cA Q zD ++ wOut cA qO zO)) s.heap s.heap [] := va_S.rf
  have hl := lv_entry ([.ref (Q 0 0), .int a1, .ref (qO 0)]) (n := 4) (Nat.le_of_ble_eq_true rfl)
  rw [lg_entry_eq]
  generalize (lg_sl ([.ref (Q 0 0), .int a1, .ref (qO 0)]) ++ List.replicate (4 - (lg_sl ([.ref (Q 0 0), .int a1, .ref (qO 0)])).length) Slot.unset).toArray = ls at hl ⊢
  have hl : lv_has ls 4 [(0, .ref (Q 0 0)), (1, .int a1), (2, .ref (qO 0))] := hl
  unfold f_L_terms at hf
  obtain ⟨r, hr1, hf⟩ := obd hf
  refine lv_aload_n hx hb dL_terms_0 rfl (lv_at hl 2 rfl) ?_
  refine lv_iconst (v := 0) hx hb dL_terms_1 (by decide) ?_
  refine lv_aload_n hx hb dL_terms_2 rfl (lv_at hl 0 rfl) ?_
  refine lv_iload_n hx hb dL_terms_3 rfl (lv_at hl 1 rfl) ?_
  refine cXiV (As := [.int a1]) (rest := [.int 0, .ref (qO 0)]) (W1 := wDesk cA Q r.2.2 ++ wOut cA qO zO) ⟨hx, hb, hml, hown, hts⟩ (m_X6_terms l G cA htr sa Q zD a1 r hr1) (cw_X6_terms hts wi_647 ⟨Nat.le_of_ble_eq_true rfl, Nat.le_of_ble_eq_true rfl⟩) hK hP hD hS [0, 1, 2, 3, 4, 5, 6, 7, 8, 9, 10, 11, 12, 13, 14, 15, 16, 17, 18, 19, 20, 21, 22, 23, 24, 25, 26, 27, 28, 29, 30, 31, 32, 33, 34, 35, 36, 37, 38, 39, 40, 41, 42, 43, 44, 45, 46] [48, 49, 50, 51, 52, 53, 54, 55, 56, 57, 58, 59, 60, 61, 62, 63, 64, 65, 66, 67, 68, 69, 70, 71, 72, 73, 74, 75, 76, 77, 78, 79, 80, 81, 82, 83, 84, 85, 86, 87, 88, 89, 90, 91, 92, 93, 94, 47] rfl rfl rfl (by decide) rfl hxh.1 (va_recv hK.1 hP (ci := 4) (q0 := 0) rfl rfl) rfl hl.1 rfl (Nat.le_of_ble_eq_true rfl) dL_terms_4 ⟨Nat.le_of_ble_eq_true rfl, Nat.le_of_ble_eq_true rfl⟩ (fun ce q9 H locs hk hP hD hS hce hcv hcl => ?_) (fun H locs hk hP hD hS => ?_)
  · rw [if_neg hk] at hf
    by_cases h1 : r.1 = 1
    · rw [if_pos h1] at hf
      cases hf
      rw [h1] at hcl
      have hcl : s.vm.findClass "java/lang/IllegalArgumentException" = some ce.cls := hcl
      refine vx_catch (own := RL) (name := "java/lang/IllegalArgumentException") (E := "java/lang/IllegalArgumentException") hown [] ⟨0, 9, 12, 19⟩ [] htab (fun z hz => by cases hz) (by decide) (by decide) (hts _ wi_303) (va_Nw.use rfl (hxh.1.2.2.2 _ List.mem_cons_self)) hce hcv hcl ?_
      refine W.eq (g2 := F0 m 12 ls [.ref q9]) rfl ?_
      refine lv_astore_n (lv' := [(3, .ref q9), (0, .ref (Q 0 0)), (1, .int a1), (2, .ref (qO 0))]) hx hb dL_terms_12 rfl hl (by decide) rfl (fun ls hl => ?_)
      refine lv_iconst (v := 1) hx hb dL_terms_13 (by decide) ?_
      exact W.iret hx hb hr (fun t ht hW => ⟨⟨_, (), rfl, rfl, toT ht hP⟩, hS.F ht⟩) hS.2.2 dL_terms_14 hlocks
    · rw [if_neg h1] at hf
      cases hf
  · rw [if_pos hk] at hf
    cases hf
    refine lv_i2l (v := r.2.1.toInt64) hx hb dL_terms_7 rfl ?_
    refine va_last hx hb hK.1 hP hD hS 47 1 rfl rfl (inb_in (by decide)) dL_terms_8 (fun H locs hP hD hS => ?_)
    have hP := sO_P hP
    refine lv_goto (tgt := 15) hx hb dL_terms_9 (by decide) ?_
    refine lv_iconst (v := 0) hx hb dL_terms_15 (by decide) ?_
    exact W.iret hx hb hr (fun t ht hW => ⟨⟨_, (), rfl, rfl, toT ht hP⟩, hS.F ht⟩) hS.2.2 dL_terms_16 hlocks
theorem cw_L_terms {R : Room} {s : State} {args : Array Value} {index : Nat} (ht : ∀ w ∈ wd, w.before args s = true) (hlink : Cond.methodLink RL index yL_terms ∈ wd) (hR : rm_L_terms.frames + 1 ≤ R.frames ∧ 8 + (4 + 11) + rm_L_terms.locals ≤ R.locals) : vx_CSW R s args RL index yL_terms cL_terms 4 (some .int) [(0, 9, 12, 19)] (Cond.codeWith yL_terms cL_terms 4 (some .int) [(0, 9, 12, 19)] :: wd) rm_L_terms 1 6 3 := cwH9 3 ht wh_L_terms wi_645 wi_54 hlink (by decide +kernel) rfl rfl hR
theorem wh_L_term : Cond.codeWith yL_term cL_term 6 (some .int) [(0, 11, 14, 19)] ∈ wd := wd_3 (List.mem_of_getElem? (i := 119) rfl) rfl
def f_L_term (zD : DeskS) (zO : OutS) (a1 : Int32) (a2 : Int32) (a3 : Int32) : Option (Int32 × DeskS × OutS) := (f_X6_term zD a1 a2 a3).bind fun r => if r.1 = 0 then some ((0 : Int32), r.2.2, vp_updL zO (0 : Int32).toNatClampNeg r.2.1) else if r.1 = 1 then some ((1 : Int32), r.2.2, zO) else none
def rm_L_term : Room := { frames := 7, cells := 1, slots := 6, locals := 114 }
set_option maxHeartbeats 4000000 in
set_option maxRecDepth 100000 in
theorem m_L_term (l : Launch) (htr : l.stackTraces = false) (G : va_G) (cA : Nat → ClassId) (sa : Nat → Nat) (Q : Nat → Nat → Nat) (qO : Nat → Nat) (zD : DeskS) (zO : OutS) (a1 : Int32) (a2 : Int32) (a3 : Int32) (res : Int32 × DeskS × OutS) (hf : f_L_term zD zO a1 a2 a3 = some res) : MHi l yL_term (Cond.codeWith yL_term cL_term 6 (some .int) [(0, 11, 14, 19)] :: wd) rm_L_term G cA sa [.ref (Q 0 0), .int a1, .int a2, .int a3, .ref (qO 0)] (wDesk cA Q zD ++ wOut cA qO zO) (wDesk cA Q res.2.1 ++ wOut cA qO res.2.2) res.1 := by
  refine va_MetW (cc := cL_term) (maxL := 6) (ret := (some .int)) (hh := [(0, 11, 14, 19)]) (by decide) rfl ?_
  intro p e s m args below meth c s₁ B hml hv
  obtain ⟨rfl, hK, hP, hD0, hxh⟩ := hv
  have hx := B.exec
  have hb := B.bytes
  have hr := B.returns
  have hlocks := B.notSynchronized
  have hts0 := atoms_spec (ws := Cond.codeWith yL_term cL_term 6 (some .int) [(0, 11, 14, 19)] :: wd) B.pre
  have hts : ∀ w ∈ wd, w.before ([.ref (Q 0 0), .int a1, .int a2, .int a3, .ref (qO 0)] : List Value).toArray s = true := fun w h => hts0 w (List.mem_cons_of_mem _ h)
  have htab := vx_table (x := yL_term) B (hts0 _ List.mem_cons_self)
  have hown : s.vm.findClass RL = some m.cls := findClass_of_methodNamed B.named
  have hD := adr.self hD0
  have hS : va_S (adr (wDesk cA Q zD ++ wOut cA qO zO)) s.heap s.heap [] := va_S.rf
  have hl := lv_entry ([.ref (Q 0 0), .int a1, .int a2, .int a3, .ref (qO 0)]) (n := 6) (Nat.le_of_ble_eq_true rfl)
  rw [lg_entry_eq]
  generalize (lg_sl ([.ref (Q 0 0), .int a1, .int a2, .int a3, .ref (qO 0)]) ++ List.replicate (6 - (lg_sl ([.ref (Q 0 0), .int a1, .int a2, .int a3, .ref (qO 0)])).length) Slot.unset).toArray = ls at hl ⊢
  have hl : lv_has ls 6 [(0, .ref (Q 0 0)), (1, .int a1), (2, .int a2), (3, .int a3), (4, .ref (qO 0))] := hl
  unfold f_L_term at hf
  obtain ⟨r, hr1, hf⟩ := obd hf
  refine lv_aload hx hb dL_term_0 (lv_at hl 4 rfl) ?_
  refine lv_iconst (v := 0) hx hb dL_term_2 (by decide) ?_
  refine lv_aload_n hx hb dL_term_3 rfl (lv_at hl 0 rfl) ?_
  refine lv_iload_n hx hb dL_term_4 rfl (lv_at hl 1 rfl) ?_
  refine lv_iload_n hx hb dL_term_5 rfl (lv_at hl 2 rfl) ?_
  refine lv_iload_n hx hb dL_term_6 rfl (lv_at hl 3 rfl) ?_
  refine cXlV (As := [.int a1, .int a2, .int a3]) (rest := [.int 0, .ref (qO 0)]) (W1 := wDesk cA Q r.2.2 ++ wOut cA qO zO) ⟨hx, hb, hml, hown, hts⟩ (m_X6_term l G cA htr sa Q zD a1 a2 a3 r hr1) (cw_X6_term hts wi_654 ⟨Nat.le_of_ble_eq_true rfl, Nat.le_of_ble_eq_true rfl⟩) hK hP hD hS [0, 1, 2, 3, 4, 5, 6, 7, 8, 9, 10, 11, 12, 13, 14, 15, 16, 17, 18, 19, 20, 21, 22, 23, 24, 25, 26, 27, 28, 29, 30, 31, 32, 33, 34, 35, 36, 37, 38, 39, 40, 41, 42, 43, 44, 45, 46] [48, 49, 50, 51, 52, 53, 54, 55, 56, 57, 58, 59, 60, 61, 62, 63, 64, 65, 66, 67, 68, 69, 70, 71, 72, 73, 74, 75, 76, 77, 78, 79, 80, 81, 82, 83, 84, 85, 86, 87, 88, 89, 90, 91, 92, 93, 94, 47] rfl rfl rfl (by decide) rfl hxh.1 (va_recv hK.1 hP (ci := 4) (q0 := 0) rfl rfl) rfl hl.1 rfl (Nat.le_of_ble_eq_true rfl) dL_term_7 ⟨Nat.le_of_ble_eq_true rfl, Nat.le_of_ble_eq_true rfl⟩ (fun ce q9 H locs hk hP hD hS hce hcv hcl => ?_) (fun H locs hk hP hD hS => ?_)
  · rw [if_neg hk] at hf
    by_cases h1 : r.1 = 1
    · rw [if_pos h1] at hf
      cases hf
      rw [h1] at hcl
      have hcl : s.vm.findClass "java/lang/IllegalArgumentException" = some ce.cls := hcl
      refine vx_catch (own := RL) (name := "java/lang/IllegalArgumentException") (E := "java/lang/IllegalArgumentException") hown [] ⟨0, 11, 14, 19⟩ [] htab (fun z hz => by cases hz) (by decide) (by decide) (hts _ wi_303) (va_Nw.use rfl (hxh.1.2.2.2 _ List.mem_cons_self)) hce hcv hcl ?_
      refine W.eq (g2 := F0 m 14 ls [.ref q9]) rfl ?_
      refine lv_astore (lv' := [(5, .ref q9), (0, .ref (Q 0 0)), (1, .int a1), (2, .int a2), (3, .int a3), (4, .ref (qO 0))]) hx hb dL_term_14 hl (by decide) rfl (fun ls hl => ?_)
      refine lv_iconst (v := 1) hx hb dL_term_16 (by decide) ?_
      exact W.iret hx hb hr (fun t ht hW => ⟨⟨_, (), rfl, rfl, toT ht hP⟩, hS.F ht⟩) hS.2.2 dL_term_17 hlocks
    · rw [if_neg h1] at hf
      cases hf
  · rw [if_pos hk] at hf
    cases hf
    refine va_last hx hb hK.1 hP hD hS 47 1 rfl rfl (inb_in (by decide)) dL_term_10 (fun H locs hP hD hS => ?_)
    have hP := sO_P hP
    refine lv_goto (tgt := 18) hx hb dL_term_11 (by decide) ?_
    refine lv_iconst (v := 0) hx hb dL_term_18 (by decide) ?_
    exact W.iret hx hb hr (fun t ht hW => ⟨⟨_, (), rfl, rfl, toT ht hP⟩, hS.F ht⟩) hS.2.2 dL_term_19 hlocks
theorem cw_L_term {R : Room} {s : State} {args : Array Value} {index : Nat} (ht : ∀ w ∈ wd, w.before args s = true) (hlink : Cond.methodLink RL index yL_term ∈ wd) (hR : rm_L_term.frames + 1 ≤ R.frames ∧ 8 + (6 + 11) + rm_L_term.locals ≤ R.locals) : vx_CSW R s args RL index yL_term cL_term 6 (some .int) [(0, 11, 14, 19)] (Cond.codeWith yL_term cL_term 6 (some .int) [(0, 11, 14, 19)] :: wd) rm_L_term 1 6 5 := cwH9 5 ht wh_L_term wi_652 wi_54 hlink (by decide +kernel) rfl rfl hR
