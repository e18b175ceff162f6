def rm_X6_isSlot : Room := { frames := 0, cells := 0, slots := 0, locals := 0 }
def f_X6_isSlot (a0 : Int32) : Option (Int32) := if a0 < 0 then some (0 : Int32) else if (8 : Int32) ≤ a0 then some (0 : Int32) else some (1 : Int32)
set_option maxHeartbeats 4000000 in
set_option maxRecDepth 100000 in
theorem b_X6_isSlot_0 {p : Program} {l : Launch} {e : Env} {s : State} {m : MethodId} {args : Array Value} {below : List Frame} {meth : Method} {c : Code} {G : va_G} {cA : Nat → ClassId} (C0 : Amb p s m args meth c cX6_isSlot RX6 1 (some .boolean) G cA (fun _ : Nat => False) []) {res : Int32} : ∀ (a0 : Int32) (ls : Array Slot), lv_has ls 1 [(0, .int a0)] → f_X6_isSlot a0 = some res → W p l e rm_X6_isSlot s m args below meth c s.heap [] 0 0 (MQ below (vp_Si (fun x => x = res)) args s 0 0 (fun _ : Nat => False)) (F0 m 0 ls []) := by
  obtain ⟨hx, hb, hr, hml, hown, hts, hlocks, hK, hR, hRA⟩ := id C0
  intro a0 ls hl hf
  unfold f_X6_isSlot at hf
  refine lv_iload_n hx hb dX6_isSlot_0 rfl (lv_at hl 0 rfl) ?_
  refine lv_if_lt (tgt := 14) hx hb dX6_isSlot_1 (by decide) (fun c_1 => ?_) (fun c_1 => ?_)
  · rw [if_pos (c_1)] at hf
    refine lv_iconst (v := 0) hx hb dX6_isSlot_14 (by decide) ?_
    cases hf
    exact W.zret hx hb hr (by decide) (fun t ht hW => ⟨_, rfl, rfl, ht⟩) (fun q hq => by cases hq) dX6_isSlot_15 hlocks
  · rw [if_neg (c_1)] at hf
    refine lv_iload_n hx hb dX6_isSlot_4 rfl (lv_at hl 0 rfl) ?_
    refine lv_bipush (v := (8 : Int32)) hx hb dX6_isSlot_5 (by decide) ?_
    refine lv_icmp_ge (tgt := 14) hx hb dX6_isSlot_7 (by decide) (fun c_2 => ?_) (fun c_2 => ?_)
    · rw [if_pos (c_2)] at hf
      refine lv_iconst (v := 0) hx hb dX6_isSlot_14 (by decide) ?_
      cases hf
      exact W.zret hx hb hr (by decide) (fun t ht hW => ⟨_, rfl, rfl, ht⟩) (fun q hq => by cases hq) dX6_isSlot_15 hlocks
    · rw [if_neg (c_2)] at hf
      refine lv_iconst (v := 1) hx hb dX6_isSlot_10 (by decide) ?_
      refine lv_goto (tgt := 15) hx hb dX6_isSlot_11 (by decide) ?_
      cases hf
      exact W.zret hx hb hr (by decide) (fun t ht hW => ⟨_, rfl, rfl, ht⟩) (fun q hq => by cases hq) dX6_isSlot_15 hlocks

set_option maxRecDepth 100000 in
theorem m_X6_isSlot (l : Launch) (G : va_G) (cA : Nat → ClassId) (a0 : Int32) (res : Int32) (hf : f_X6_isSlot a0 = some res) : MRi l yX6_isSlot (.code yX6_isSlot cX6_isSlot 1 (some .boolean) :: wd) rm_X6_isSlot G cA [.int a0] [] res := by
  refine Met.ofW (cc := cX6_isSlot) (maxL := 1) (ret := (some .boolean)) (by decide) rfl ?_
  intro p e s m args below meth c s₁ B hml hv
  obtain ⟨rfl, hK, hR⟩ := hv
  have C0 : Amb p s m ([.int a0] : List Value).toArray meth c cX6_isSlot RX6 1 (some .boolean) G cA (fun _ : Nat => False) [] := ⟨B.exec, B.bytes, B.returns, hml, findClass_of_methodNamed B.named, fun w h => atoms_spec (ws := (.code yX6_isSlot cX6_isSlot 1 (some .boolean) :: wd)) B.pre w (List.mem_cons_of_mem _ h), B.notSynchronized, hK, hR, fun _ _ _ h => h⟩
  have hl := lv_entry ([.int a0]) (n := 1) (Nat.le_of_ble_eq_true rfl)
  rw [lg_entry_eq]
  generalize (lg_sl ([.int a0]) ++ List.replicate (1 - (lg_sl ([.int a0])).length) Slot.unset).toArray = ls at hl ⊢
  have hl : lv_has ls 1 [(0, .int a0)] := hl
  exact b_X6_isSlot_0    C0 a0 ls hl hf
theorem cw_X6_isSlot {R : Room} {s : State} {args : Array Value} {own : String} {index : Nat} (ht : ∀ w ∈ wd, w.before args s = true) (hlink : Cond.methodLink own index yX6_isSlot ∈ wd) (hR : rm_X6_isSlot.frames + 1 ≤ R.frames ∧ 8 + (1 + 11) + rm_X6_isSlot.locals ≤ R.locals) : CallB R s args own index yX6_isSlot cX6_isSlot 1 (some .boolean) (.code yX6_isSlot cX6_isSlot 1 (some .boolean) :: wd) rm_X6_isSlot 0 0 1 ∧ (Cond.static yX6_isSlot).before args s = true := cwS9 1 ht wi_310 wi_309 wi_55 hlink (by decide +kernel) rfl rfl hR
def rm_X6_settle : Room := { frames := 4, cells := 0, slots := 0, locals := 89 }
def f_X6_settle (zD : DeskS) (a1 : Int32) : Option (Int32 × DeskS) := (f_X4_fits 200 (gD_work zD)).bind fun r_1 => if ¬ r_1 = 0 then if inb a1 8 = true then (f_X4_become 40 200 (gD_work zD) (gD_slots zD a1.toNatClampNeg)).bind fun r_4 => (f_X4_size 200 (gD_work (uD_slot zD a1.toNatClampNeg r_4))).bind fun r_5 => some (r_5, (uD_slot zD a1.toNatClampNeg r_4)) else none else some ((-4 : Int32), zD)
set_option maxHeartbeats 4000000 in
set_option maxRecDepth 100000 in
theorem b_X6_settle_0 {p : Program} {l : Launch} {e : Env} {s : State} {m : MethodId} {args : Array Value} {below : List Frame} {meth : Method} {c : Code} {G : va_G} {cA : Nat → ClassId} {W9 : va_W} (Q : Nat → Nat → Nat) (C0 : Amb p s m args meth c cX6_settle RX6 2 (some .int) G cA (adr W9) []) {res : Int32 × DeskS} : ∀ (zD : DeskS) (a1 : Int32) (H : Heap) (locs : List Loc) (ls : Array Slot), va_P G vwCl ((wDesk cA Q zD)) H → va_D (adr W9) ((wDesk cA Q zD)) → va_S (adr W9) s.heap H locs → lv_has ls 2 [(0, .ref (Q 0 0)), (1, .int a1)] → f_X6_settle zD a1 = some res → W p l e rm_X6_settle s m args below meth c H locs 0 0 (MQ below (qWi G W9 ((wDesk cA Q res.2)) res.1) args s 0 0 (adr W9)) (F0 m 0 ls []) := by
  obtain ⟨hx, hb, hr, hml, hown, hts, hlocks, hK, hR, hRA⟩ := id C0
  intro zD a1 H locs ls hP hD hS hl hf
  unfold f_X6_settle at hf
  refine lv_aload_n hx hb dX6_settle_0 rfl (lv_at hl 0 rfl) ?_
  refine va_get (D := G) (ci := 4) (v := .ref (Q 1 0)) (C := RX6) (T := TX6) (N := 6) hx hb hts fin_X6 hown hK.1 hP 0 rfl rfl 1 (by decide) (hts _ wi_172) (fun _ h9 => h9) rfl dX6_settle_1 ?_
  obtain ⟨r_1, hr_1, hf⟩ := obd hf
  refine cRiV (As := []) (rest := []) ⟨hx, hb, hml, hown, hts⟩ (m_X4_fits l G cA (Q 1) 200 (gD_work zD) r_1 hr_1) (cw_X4_fits hts wi_452 ⟨Nat.le_of_ble_eq_true rfl, Nat.le_of_ble_eq_true rfl⟩) hK (pk hP [2, 3, 4, 5] (subC_work cA Q zD)) (va_recv hK.1 hP (ci := 2) (q0 := 2) rfl rfl) rfl hl.1 rfl (Nat.le_of_ble_eq_true rfl) dX6_settle_4 ⟨Nat.zero_le _, Nat.zero_le _⟩ ?_
  refine lv_if_ne (tgt := 13) hx hb dX6_settle_7 (by decide) (fun c_2 => ?_) (fun c_2 => ?_)
  · rw [if_pos (c_2)] at hf
    refine lv_aload_n hx hb dX6_settle_13 rfl (lv_at hl 0 rfl) ?_
    refine va_get (D := G) (ci := 4) (v := .ref (Q 0 1)) (C := RX6) (T := TX6) (N := 6) hx hb hts fin_X6 hown hK.1 hP 0 rfl rfl 0 (by decide) (hts _ wi_171) (fun _ h9 => h9) rfl dX6_settle_14 ?_
    refine lv_iload_n hx hb dX6_settle_17 rfl (lv_at hl 1 rfl) ?_
    obtain ⟨hi_3, hf⟩ := oif hf
    refine va_aldq hx hb hK.1 hP 1 3 rfl rfl (inb_in hi_3) dX6_settle_18 ?_
    refine W.eq (g2 := F0 m 19 ls [.ref (Q (6 + a1.toNatClampNeg) 0)]) rfl ?_
    refine lv_aload_n hx hb dX6_settle_19 rfl (lv_at hl 0 rfl) ?_
    refine va_get (D := G) (ci := 4) (v := .ref (Q 1 0)) (C := RX6) (T := TX6) (N := 6) hx hb hts fin_X6 hown hK.1 hP 0 rfl rfl 1 (by decide) (hts _ wi_172) (fun _ h9 => h9) rfl dX6_settle_20 ?_
    obtain ⟨r_4, hr_4, hf⟩ := obd hf
    refine cWvV (As := [.ref (Q 1 0)]) (rest := []) (W1 := ((wDesk cA Q (uD_slot zD a1.toNatClampNeg r_4)))) ⟨hx, hb, hml, hown, hts⟩ (m_X4_become l G cA (Q (6 + a1.toNatClampNeg)) 40 (Q 1) 200 (gD_work zD) (gD_slots zD a1.toNatClampNeg) r_4 hr_4) (cw_X4_become hts wi_453 ⟨Nat.le_of_ble_eq_true rfl, Nat.le_of_ble_eq_true rfl⟩) hK hP hD hS (sIs a1.toNatClampNeg) (sBs a1.toNatClampNeg) (slotC cA Q zD (inb8 hi_3)) (slotNd (inb8 hi_3)) (slotB cA Q zD r_4 (inb8 hi_3)) (slotDis (inb8 hi_3)) (deskAdr cA Q _ _) (pk hP [2, 3, 4, 5] (subC_work cA Q zD)) (dj_own (isC := (sIs a1.toNatClampNeg)) hD [2, 3, 4, 5] (slotC cA Q zD (inb8 hi_3)) (subC_work cA Q zD) (slotIn _ (by decide))) (slotRecv hK.1 hP (inb8 hi_3)) rfl hl.1 rfl (Nat.le_of_ble_eq_true rfl) dX6_settle_23 ⟨Nat.zero_le _, Nat.zero_le _⟩ (fun H locs hP hD hS => ?_)
    refine lv_aload_n hx hb dX6_settle_26 rfl (lv_at hl 0 rfl) ?_
    refine va_get (D := G) (ci := 4) (v := .ref (Q 1 0)) (C := RX6) (T := TX6) (N := 6) hx hb hts fin_X6 hown hK.1 hP 0 rfl rfl 1 (by decide) (hts _ wi_172) (fun _ h9 => h9) rfl dX6_settle_27 ?_
    obtain ⟨r_5, hr_5, hf⟩ := obd hf
    refine cRiV (As := []) (rest := []) ⟨hx, hb, hml, hown, hts⟩ (m_X4_size l G cA (Q 1) 200 (gD_work (uD_slot zD a1.toNatClampNeg r_4)) r_5 hr_5) (cw_X4_size hts wi_460 ⟨Nat.le_of_ble_eq_true rfl, Nat.le_of_ble_eq_true rfl⟩) hK (pk hP [2, 3, 4, 5] (subC_work cA Q (uD_slot zD a1.toNatClampNeg r_4))) (va_recv hK.1 hP (ci := 2) (q0 := 2) rfl rfl) rfl hl.1 rfl (Nat.le_of_ble_eq_true rfl) dX6_settle_30 ⟨Nat.zero_le _, Nat.zero_le _⟩ ?_
    cases hf
    exact W.iret hx hb hr (fun t ht hW => ⟨⟨_, (), rfl, rfl, toT ht hP⟩, hS.F ht⟩) hS.2.2 dX6_settle_33 hlocks
  · rw [if_neg (not_not_intro c_2)] at hf
    refine lv_bipush (v := (-4 : Int32)) hx hb dX6_settle_10 (by decide) ?_
    cases hf
    exact W.iret hx hb hr (fun t ht hW => ⟨⟨_, (), rfl, rfl, toT ht hP⟩, hS.F ht⟩) hS.2.2 dX6_settle_12 hlocks

set_option maxRecDepth 100000 in
theorem m_X6_settle (l : Launch) (G : va_G) (cA : Nat → ClassId) (Q : Nat → Nat → Nat) (zD : DeskS) (a1 : Int32) (res : Int32 × DeskS) (hf : f_X6_settle zD a1 = some res) : MWi l yX6_settle (.code yX6_settle cX6_settle 2 (some .int) :: wd) rm_X6_settle G cA [.ref (Q 0 0), .int a1] ((wDesk cA Q zD)) [] ((wDesk cA Q res.2)) res.1 := by
  refine Met.ofW (cc := cX6_settle) (maxL := 2) (ret := (some .int)) (by decide) rfl ?_
  intro p e s m args below meth c s₁ B hml hv
  obtain ⟨rfl, hK, hP, hD0, hR, hRA⟩ := hv
  have C0 : Amb p s m ([.ref (Q 0 0), .int a1] : List Value).toArray meth c cX6_settle RX6 2 (some .int) G cA (adr ((wDesk cA Q zD))) [] := ⟨B.exec, B.bytes, B.returns, hml, findClass_of_methodNamed B.named, fun w h => atoms_spec (ws := (.code yX6_settle cX6_settle 2 (some .int) :: wd)) B.pre w (List.mem_cons_of_mem _ h), B.notSynchronized, hK, hR, hRA⟩
  have hl := lv_entry ([.ref (Q 0 0), .int a1]) (n := 2) (Nat.le_of_ble_eq_true rfl)
  rw [lg_entry_eq]
  generalize (lg_sl ([.ref (Q 0 0), .int a1]) ++ List.replicate (2 - (lg_sl ([.ref (Q 0 0), .int a1])).length) Slot.unset).toArray = ls at hl ⊢
  have hl : lv_has ls 2 [(0, .ref (Q 0 0)), (1, .int a1)] := hl
  exact b_X6_settle_0 (W9 := ((wDesk cA Q zD))) Q   C0 zD a1 s.heap [] ls hP (adr.self hD0) va_S.rf hl hf
theorem cw_X6_settle {R : Room} {s : State} {args : Array Value} {own : String} {index : Nat} (ht : ∀ w ∈ wd, w.before args s = true) (hlink : Cond.methodLink own index yX6_settle ∈ wd) (hR : rm_X6_settle.frames + 1 ≤ R.frames ∧ 8 + (2 + 11) + rm_X6_settle.locals ≤ R.locals) : CallW R s args own RX6 index yX6_settle cX6_settle 2 (some .int) (.code yX6_settle cX6_settle 2 (some .int) :: wd) rm_X6_settle 0 0 1 := cwV9 1 ht wi_451 wi_450 wi_19 wi_55 hlink (by decide +kernel) rfl rfl hR
def rm_X6_erase : Room := { frames := 1, cells := 0, slots := 0, locals := 20 }
def f_X6_erase (zD : DeskS) : Option (Int32 × DeskS) := (f_X1_length (gD_line zD)).bind fun r_1 => (f_X1_clear (gD_line zD)).bind fun r_2 => some (r_1, (uD_line zD r_2))
set_option maxHeartbeats 4000000 in
set_option maxRecDepth 100000 in
theorem b_X6_erase_0 {p : Program} {l : Launch} {e : Env} {s : State} {m : MethodId} {args : Array Value} {below : List Frame} {meth : Method} {c : Code} {G : va_G} {cA : Nat → ClassId} {W9 : va_W} (Q : Nat → Nat → Nat) (C0 : Amb p s m args meth c cX6_erase RX6 2 (some .int) G cA (adr W9) []) {res : Int32 × DeskS} : ∀ (zD : DeskS) (H : Heap) (locs : List Loc) (ls : Array Slot), va_P G vwCl ((wDesk cA Q zD)) H → va_D (adr W9) ((wDesk cA Q zD)) → va_S (adr W9) s.heap H locs → lv_has ls 2 [(0, .ref (Q 0 0))] → f_X6_erase zD = some res → W p l e rm_X6_erase s m args below meth c H locs 0 0 (MQ below (qWi G W9 ((wDesk cA Q res.2)) res.1) args s 0 0 (adr W9)) (F0 m 0 ls []) := by
  obtain ⟨hx, hb, hr, hml, hown, hts, hlocks, hK, hR, hRA⟩ := id C0
  intro zD H locs ls hP hD hS hl hf
  unfold f_X6_erase at hf
  refine lv_aload_n hx hb dX6_erase_0 rfl (lv_at hl 0 rfl) ?_
  refine va_get (D := G) (ci := 4) (v := .ref (Q 3 0)) (C := RX6) (T := TX6) (N := 6) hx hb hts fin_X6 hown hK.1 hP 0 rfl rfl 3 (by decide) (hts _ wi_174) (fun _ h9 => h9) rfl dX6_erase_1 ?_
  obtain ⟨r_1, hr_1, hf⟩ := obd hf
  refine cRiV (As := []) (rest := []) ⟨hx, hb, hml, hown, hts⟩ (m_X1_length l G cA (Q 3) (gD_line zD) r_1 hr_1) (cw_X1_length hts wi_194 ⟨Nat.le_of_ble_eq_true rfl, Nat.le_of_ble_eq_true rfl⟩) hK (pk hP [10, 11] (subC_line cA Q zD)) (va_recv hK.1 hP (ci := 0) (q0 := 10) rfl rfl) rfl hl.1 rfl (Nat.le_of_ble_eq_true rfl) dX6_erase_4 ⟨Nat.zero_le _, Nat.zero_le _⟩ ?_
  refine lv_istore_n (lv' := [(1, .int r_1), (0, .ref (Q 0 0))]) hx hb dX6_erase_7 rfl hl (by decide) rfl (fun ls hl => ?_)
  refine lv_aload_n hx hb dX6_erase_8 rfl (lv_at hl 1 rfl) ?_
  refine va_get (D := G) (ci := 4) (v := .ref (Q 3 0)) (C := RX6) (T := TX6) (N := 6) hx hb hts fin_X6 hown hK.1 hP 0 rfl rfl 3 (by decide) (hts _ wi_174) (fun _ h9 => h9) rfl dX6_erase_9 ?_
  obtain ⟨r_2, hr_2, hf⟩ := obd hf
  refine cWvV (As := []) (rest := []) (W1 := ((wDesk cA Q (uD_line zD r_2)))) ⟨hx, hb, hml, hown, hts⟩ (m_X1_clear l G cA (Q 3) (gD_line zD) r_2 hr_2) (cw_X1_clear hts wi_198 ⟨Nat.le_of_ble_eq_true rfl, Nat.le_of_ble_eq_true rfl⟩) hK hP hD hS [10, 11] [0, 1, 2, 3, 4, 5, 6, 7, 8, 9, 47, 48, 12, 13, 14, 15, 16, 17, 18, 19, 20, 21, 22, 23, 24, 25, 26, 27, 28, 29, 30, 31, 32, 33, 34, 35, 36, 37, 38, 39, 40, 41, 42, 43, 44, 45, 46] (subC_line cA Q zD) (by decide) (subB_line cA Q zD r_2) (by decide) (deskAdr cA Q _ _) va_Pnil dj_nil (va_recv hK.1 hP (ci := 0) (q0 := 10) rfl rfl) rfl hl.1 rfl (Nat.le_of_ble_eq_true rfl) dX6_erase_12 ⟨Nat.zero_le _, Nat.zero_le _⟩ (fun H locs hP hD hS => ?_)
  refine lv_iload_n hx hb dX6_erase_15 rfl (lv_at hl 0 rfl) ?_
  cases hf
  exact W.iret hx hb hr (fun t ht hW => ⟨⟨_, (), rfl, rfl, toT ht hP⟩, hS.F ht⟩) hS.2.2 dX6_erase_16 hlocks

set_option maxRecDepth 100000 in
theorem m_X6_erase (l : Launch) (G : va_G) (cA : Nat → ClassId) (Q : Nat → Nat → Nat) (zD : DeskS) (res : Int32 × DeskS) (hf : f_X6_erase zD = some res) : MWi l yX6_erase (.code yX6_erase cX6_erase 2 (some .int) :: wd) rm_X6_erase G cA [.ref (Q 0 0)] ((wDesk cA Q zD)) [] ((wDesk cA Q res.2)) res.1 := by
  refine Met.ofW (cc := cX6_erase) (maxL := 2) (ret := (some .int)) (by decide) rfl ?_
  intro p e s m args below meth c s₁ B hml hv
  obtain ⟨rfl, hK, hP, hD0, hR, hRA⟩ := hv
  have C0 : Amb p s m ([.ref (Q 0 0)] : List Value).toArray meth c cX6_erase RX6 2 (some .int) G cA (adr ((wDesk cA Q zD))) [] := ⟨B.exec, B.bytes, B.returns, hml, findClass_of_methodNamed B.named, fun w h => atoms_spec (ws := (.code yX6_erase cX6_erase 2 (some .int) :: wd)) B.pre w (List.mem_cons_of_mem _ h), B.notSynchronized, hK, hR, hRA⟩
  have hl := lv_entry ([.ref (Q 0 0)]) (n := 2) (Nat.le_of_ble_eq_true rfl)
  rw [lg_entry_eq]
  generalize (lg_sl ([.ref (Q 0 0)]) ++ List.replicate (2 - (lg_sl ([.ref (Q 0 0)])).length) Slot.unset).toArray = ls at hl ⊢
  have hl : lv_has ls 2 [(0, .ref (Q 0 0))] := hl
  exact b_X6_erase_0 (W9 := ((wDesk cA Q zD))) Q   C0 zD s.heap [] ls hP (adr.self hD0) va_S.rf hl hf
theorem cw_X6_erase {R : Room} {s : State} {args : Array Value} {own : String} {index : Nat} (ht : ∀ w ∈ wd, w.before args s = true) (hlink : Cond.methodLink own index yX6_erase ∈ wd) (hR : rm_X6_erase.frames + 1 ≤ R.frames ∧ 8 + (2 + 11) + rm_X6_erase.locals ≤ R.locals) : CallW R s args own RX6 index yX6_erase cX6_erase 2 (some .int) (.code yX6_erase cX6_erase 2 (some .int) :: wd) rm_X6_erase 0 0 0 := cwV9 0 ht wi_193 wi_191 wi_192 wi_55 hlink (by decide +kernel) rfl rfl hR
def rm_X6_place : Room := { frames := 1, cells := 0, slots := 0, locals := 20 }
def f_X6_place (zD : DeskS) : Option (Int32 × DeskS) := (f_X3_faultPlace (gD_rd zD)).bind fun r_1 => some (r_1, zD)
set_option maxHeartbeats 4000000 in
set_option maxRecDepth 100000 in
theorem b_X6_place_0 {p : Program} {l : Launch} {e : Env} {s : State} {m : MethodId} {args : Array Value} {below : List Frame} {meth : Method} {c : Code} {G : va_G} {cA : Nat → ClassId} {W9 : va_W} (Q : Nat → Nat → Nat) (C0 : Amb p s m args meth c cX6_place RX6 1 (some .int) G cA (adr W9) []) {res : Int32 × DeskS} : ∀ (zD : DeskS) (H : Heap) (locs : List Loc) (ls : Array Slot), va_P G vwCl ((wDesk cA Q zD)) H → va_D (adr W9) ((wDesk cA Q zD)) → va_S (adr W9) s.heap H locs → lv_has ls 1 [(0, .ref (Q 0 0))] → f_X6_place zD = some res → W p l e rm_X6_place s m args below meth c H locs 0 0 (MQ below (qWi G W9 ((wDesk cA Q res.2)) res.1) args s 0 0 (adr W9)) (F0 m 0 ls []) := by
  obtain ⟨hx, hb, hr, hml, hown, hts, hlocks, hK, hR, hRA⟩ := id C0
  intro zD H locs ls hP hD hS hl hf
  unfold f_X6_place at hf
  refine lv_aload_n hx hb dX6_place_0 rfl (lv_at hl 0 rfl) ?_
  refine va_get (D := G) (ci := 4) (v := .ref (Q 4 0)) (C := RX6) (T := TX6) (N := 6) hx hb hts fin_X6 hown hK.1 hP 0 rfl rfl 4 (by decide) (hts _ wi_175) (fun _ h9 => h9) rfl dX6_place_1 ?_
  obtain ⟨r_1, hr_1, hf⟩ := obd hf
  refine cRiV (As := []) (rest := []) ⟨hx, hb, hml, hown, hts⟩ (m_X3_faultPlace l G cA (Q 4) (Q 3) (Q 1) (gD_rd zD) r_1 hr_1) (cw_X3_faultPlace hts wi_206 ⟨Nat.le_of_ble_eq_true rfl, Nat.le_of_ble_eq_true rfl⟩) hK (pk hP [12] (subC_rd cA Q zD)) (va_recv hK.1 hP (ci := 1) (q0 := 12) rfl rfl) rfl hl.1 rfl (Nat.le_of_ble_eq_true rfl) dX6_place_4 ⟨Nat.zero_le _, Nat.zero_le _⟩ ?_
  cases hf
  exact W.iret hx hb hr (fun t ht hW => ⟨⟨_, (), rfl, rfl, toT ht hP⟩, hS.F ht⟩) hS.2.2 dX6_place_7 hlocks

set_option maxRecDepth 100000 in
theorem m_X6_place (l : Launch) (G : va_G) (cA : Nat → ClassId) (Q : Nat → Nat → Nat) (zD : DeskS) (res : Int32 × DeskS) (hf : f_X6_place zD = some res) : MWi l yX6_place (.code yX6_place cX6_place 1 (some .int) :: wd) rm_X6_place G cA [.ref (Q 0 0)] ((wDesk cA Q zD)) [] ((wDesk cA Q res.2)) res.1 := by
  refine Met.ofW (cc := cX6_place) (maxL := 1) (ret := (some .int)) (by decide) rfl ?_
  intro p e s m args below meth c s₁ B hml hv
  obtain ⟨rfl, hK, hP, hD0, hR, hRA⟩ := hv
  have C0 : Amb p s m ([.ref (Q 0 0)] : List Value).toArray meth c cX6_place RX6 1 (some .int) G cA (adr ((wDesk cA Q zD))) [] := ⟨B.exec, B.bytes, B.returns, hml, findClass_of_methodNamed B.named, fun w h => atoms_spec (ws := (.code yX6_place cX6_place 1 (some .int) :: wd)) B.pre w (List.mem_cons_of_mem _ h), B.notSynchronized, hK, hR, hRA⟩
  have hl := lv_entry ([.ref (Q 0 0)]) (n := 1) (Nat.le_of_ble_eq_true rfl)
  rw [lg_entry_eq]
  generalize (lg_sl ([.ref (Q 0 0)]) ++ List.replicate (1 - (lg_sl ([.ref (Q 0 0)])).length) Slot.unset).toArray = ls at hl ⊢
  have hl : lv_has ls 1 [(0, .ref (Q 0 0))] := hl
  exact b_X6_place_0 (W9 := ((wDesk cA Q zD))) Q   C0 zD s.heap [] ls hP (adr.self hD0) va_S.rf hl hf
theorem cw_X6_place {R : Room} {s : State} {args : Array Value} {own : String} {index : Nat} (ht : ∀ w ∈ wd, w.before args s = true) (hlink : Cond.methodLink own index yX6_place ∈ wd) (hR : rm_X6_place.frames + 1 ≤ R.frames ∧ 8 + (1 + 11) + rm_X6_place.locals ≤ R.locals) : CallW R s args own RX6 index yX6_place cX6_place 1 (some .int) (.code yX6_place cX6_place 1 (some .int) :: wd) rm_X6_place 0 0 0 := cwV9 0 ht wi_205 wi_203 wi_204 wi_55 hlink (by decide +kernel) rfl rfl hR
def rm_X6_output : Room := { frames := 1, cells := 0, slots := 0, locals := 21 }
def f_X6_output (zD : DeskS) (a1 : Int32) : Option (Int32 × DeskS) := (f_X5_charAt (gD_wr zD) a1).bind fun r_1 => if cb r_1 = true then some (r_1, zD) else none
set_option maxHeartbeats 4000000 in
set_option maxRecDepth 100000 in
theorem b_X6_output_0 {p : Program} {l : Launch} {e : Env} {s : State} {m : MethodId} {args : Array Value} {below : List Frame} {meth : Method} {c : Code} {G : va_G} {cA : Nat → ClassId} {W9 : va_W} (Q : Nat → Nat → Nat) (C0 : Amb p s m args meth c cX6_output RX6 2 (some .char) G cA (adr W9) []) {res : Int32 × DeskS} : ∀ (zD : DeskS) (a1 : Int32) (H : Heap) (locs : List Loc) (ls : Array Slot), va_P G vwCl ((wDesk cA Q zD)) H → va_D (adr W9) ((wDesk cA Q zD)) → va_S (adr W9) s.heap H locs → lv_has ls 2 [(0, .ref (Q 0 0)), (1, .int a1)] → f_X6_output zD a1 = some res → W p l e rm_X6_output s m args below meth c H locs 0 0 (MQ below (qWi G W9 ((wDesk cA Q res.2)) res.1) args s 0 0 (adr W9)) (F0 m 0 ls []) := by
  obtain ⟨hx, hb, hr, hml, hown, hts, hlocks, hK, hR, hRA⟩ := id C0
  intro zD a1 H locs ls hP hD hS hl hf
  unfold f_X6_output at hf
  refine lv_aload_n hx hb dX6_output_0 rfl (lv_at hl 0 rfl) ?_
  refine va_get (D := G) (ci := 4) (v := .ref (Q 5 0)) (C := RX6) (T := TX6) (N := 6) hx hb hts fin_X6 hown hK.1 hP 0 rfl rfl 5 (by decide) (hts _ wi_176) (fun _ h9 => h9) rfl dX6_output_1 ?_
  refine lv_iload_n hx hb dX6_output_4 rfl (lv_at hl 1 rfl) ?_
  obtain ⟨r_1, hr_1, hf⟩ := obd hf
  refine cRiV (As := [.int a1]) (rest := []) ⟨hx, hb, hml, hown, hts⟩ (m_X5_charAt l G cA (Q 5) (gD_wr zD) a1 r_1 hr_1) (cw_X5_charAt hts wi_214 ⟨Nat.le_of_ble_eq_true rfl, Nat.le_of_ble_eq_true rfl⟩) hK (pk hP [13, 14] (subC_wr cA Q zD)) (va_recv hK.1 hP (ci := 3) (q0 := 13) rfl rfl) rfl hl.1 rfl (Nat.le_of_ble_eq_true rfl) dX6_output_5 ⟨Nat.zero_le _, Nat.zero_le _⟩ ?_
  obtain ⟨hz_2, hf⟩ := oif hf
  cases hf
  exact W.zret hx hb hr (cb_n hz_2) (fun t ht hW => ⟨⟨_, (), rfl, rfl, toT ht hP⟩, hS.F ht⟩) hS.2.2 dX6_output_8 hlocks

set_option maxRecDepth 100000 in
theorem m_X6_output (l : Launch) (G : va_G) (cA : Nat → ClassId) (Q : Nat → Nat → Nat) (zD : DeskS) (a1 : Int32) (res : Int32 × DeskS) (hf : f_X6_output zD a1 = some res) : MWi l yX6_output (.code yX6_output cX6_output 2 (some .char) :: wd) rm_X6_output G cA [.ref (Q 0 0), .int a1] ((wDesk cA Q zD)) [] ((wDesk cA Q res.2)) res.1 := by
  refine Met.ofW (cc := cX6_output) (maxL := 2) (ret := (some .char)) (by decide) rfl ?_
  intro p e s m args below meth c s₁ B hml hv
  obtain ⟨rfl, hK, hP, hD0, hR, hRA⟩ := hv
  have C0 : Amb p s m ([.ref (Q 0 0), .int a1] : List Value).toArray meth c cX6_output RX6 2 (some .char) G cA (adr ((wDesk cA Q zD))) [] := ⟨B.exec, B.bytes, B.returns, hml, findClass_of_methodNamed B.named, fun w h => atoms_spec (ws := (.code yX6_output cX6_output 2 (some .char) :: wd)) B.pre w (List.mem_cons_of_mem _ h), B.notSynchronized, hK, hR, hRA⟩
  have hl := lv_entry ([.ref (Q 0 0), .int a1]) (n := 2) (Nat.le_of_ble_eq_true rfl)
  rw [lg_entry_eq]
  generalize (lg_sl ([.ref (Q 0 0), .int a1]) ++ List.replicate (2 - (lg_sl ([.ref (Q 0 0), .int a1])).length) Slot.unset).toArray = ls at hl ⊢
  have hl : lv_has ls 2 [(0, .ref (Q 0 0)), (1, .int a1)] := hl
  exact b_X6_output_0 (W9 := ((wDesk cA Q zD))) Q   C0 zD a1 s.heap [] ls hP (adr.self hD0) va_S.rf hl hf
theorem cw_X6_output {R : Room} {s : State} {args : Array Value} {own : String} {index : Nat} (ht : ∀ w ∈ wd, w.before args s = true) (hlink : Cond.methodLink own index yX6_output ∈ wd) (hR : rm_X6_output.frames + 1 ≤ R.frames ∧ 8 + (2 + 11) + rm_X6_output.locals ≤ R.locals) : CallW R s args own RX6 index yX6_output cX6_output 2 (some .char) (.code yX6_output cX6_output 2 (some .char) :: wd) rm_X6_output 0 0 1 := cwV9 1 ht wi_213 wi_211 wi_212 wi_55 hlink (by decide +kernel) rfl rfl hR
def rm_X6_type : Room := { frames := 6, cells := 1, slots := 6, locals := 90 }
def f_X6_type (zD : DeskS) (a1 : Int32) (a2 : Int32) (a3 : Int32) (a4 : Int32) (a5 : Int32) : Option (Int32 × Int32 × DeskS) := (f_X1_charactersIn a1).bind fun r_1 => (f_X1_charactersIn a2).bind fun r_2 => (f_X1_charactersIn a3).bind fun r_3 => (f_X1_charactersIn a4).bind fun r_4 => (f_X1_charactersIn a5).bind fun r_5 => (some (((((r_1 + r_2) + r_3) + r_4) + r_5))).bind fun y_6 => (f_X1_length (gD_line zD)).bind fun r_7 => if (r_7 + y_6) ≤ (100 : Int32) then (f_X1_append (gD_line zD) a1).bind fun r_9 => (f_X1_append (gD_line (uD_line zD r_9)) a2).bind fun r_10 => (f_X1_append (gD_line (uD_line (uD_line zD r_9) r_10)) a3).bind fun r_11 => (f_X1_append (gD_line (uD_line (uD_line (uD_line zD r_9) r_10) r_11)) a4).bind fun r_12 => (f_X1_append (gD_line (uD_line (uD_line (uD_line (uD_line zD r_9) r_10) r_11) r_12)) a5).bind fun r_13 => (f_X1_length (gD_line (uD_line (uD_line (uD_line (uD_line (uD_line zD r_9) r_10) r_11) r_12) r_13))).bind fun r_14 => some ((0 : Int32), r_14, (uD_line (uD_line (uD_line (uD_line (uD_line zD r_9) r_10) r_11) r_12) r_13)) else some ((2 : Int32), (0 : Int32), zD)
set_option maxHeartbeats 4000000 in
set_option maxRecDepth 100000 in
theorem b_X6_type_0 {p : Program} {l : Launch} {e : Env} {s : State} {m : MethodId} {args : Array Value} {below : List Frame} {meth : Method} {c : Code} {G : va_G} {cA : Nat → ClassId} {W9 : va_W} (sa : Nat → Nat) (Q : Nat → Nat → Nat) (C0 : Amb p s m args meth c cX6_type RX6 7 (some .int) G cA (adr W9) []) (X0 : l.stackTraces = false ∧ xOK (adr W9) sa s ∧ ∀ x ∈ c.exceptionTable.toList, False) {res : Int32 × Int32 × DeskS} : ∀ (zD : DeskS) (a1 : Int32) (a2 : Int32) (a3 : Int32) (a4 : Int32) (a5 : Int32) (H : Heap) (locs : List Loc) (ls : Array Slot), va_P G vwCl ((wDesk cA Q zD)) H → va_D (adr W9) ((wDesk cA Q zD)) → va_S (adr W9) s.heap H locs → lv_has ls 7 [(0, .ref (Q 0 0)), (1, .int a1), (2, .int a2), (3, .int a3), (4, .int a4), (5, .int a5)] → f_X6_type zD a1 a2 a3 a4 a5 = some res → W p l e rm_X6_type s m args below meth c H locs 0 0 (vx_MQ below (qXi G W9 ((wDesk cA Q res.2.2)) res.1 res.2.1) (qXx G W9 ((wDesk cA Q res.2.2)) res.1) args s 1 6 (adr W9)) (F0 m 0 ls []) := by
  obtain ⟨hx, hb, hr, hml, hown, hts, hlocks, hK, hR, hRA⟩ := id C0
  obtain ⟨htr, hxo, hout⟩ := id X0
  intro zD a1 a2 a3 a4 a5 H locs ls hP hD hS hl hf
  unfold f_X6_type at hf
  refine lv_iload_n hx hb dX6_type_0 rfl (lv_at hl 1 rfl) ?_
  obtain ⟨r_1, hr_1, hf⟩ := obd hf
  refine cRiS (As := [.int a1]) (rest := []) ⟨hx, hb, hml, hown, hts⟩ (m_X1_charactersIn l G cA a1 r_1 hr_1) (cw_X1_charactersIn hts wi_226 ⟨Nat.le_of_ble_eq_true rfl, Nat.le_of_ble_eq_true rfl⟩) hK va_Pnil rfl hl.1 rfl (Nat.le_of_ble_eq_true rfl) dX6_type_1 ⟨Nat.zero_le _, Nat.zero_le _⟩ ?_
  refine lv_iload_n hx hb dX6_type_4 rfl (lv_at hl 2 rfl) ?_
  obtain ⟨r_2, hr_2, hf⟩ := obd hf
  refine cRiS (As := [.int a2]) (rest := [.int r_1]) ⟨hx, hb, hml, hown, hts⟩ (m_X1_charactersIn l G cA a2 r_2 hr_2) (cw_X1_charactersIn hts wi_226 ⟨Nat.le_of_ble_eq_true rfl, Nat.le_of_ble_eq_true rfl⟩) hK va_Pnil rfl hl.1 rfl (Nat.le_of_ble_eq_true rfl) dX6_type_5 ⟨Nat.zero_le _, Nat.zero_le _⟩ ?_
  refine lv_iadd hx hb dX6_type_8 ?_
  refine lv_iload_n hx hb dX6_type_9 rfl (lv_at hl 3 rfl) ?_
  obtain ⟨r_3, hr_3, hf⟩ := obd hf
  refine cRiS (As := [.int a3]) (rest := [.int (r_1 + r_2)]) ⟨hx, hb, hml, hown, hts⟩ (m_X1_charactersIn l G cA a3 r_3 hr_3) (cw_X1_charactersIn hts wi_226 ⟨Nat.le_of_ble_eq_true rfl, Nat.le_of_ble_eq_true rfl⟩) hK va_Pnil rfl hl.1 rfl (Nat.le_of_ble_eq_true rfl) dX6_type_10 ⟨Nat.zero_le _, Nat.zero_le _⟩ ?_
  refine lv_iadd hx hb dX6_type_13 ?_
  refine lv_iload hx hb dX6_type_14 (lv_at hl 4 rfl) ?_
  obtain ⟨r_4, hr_4, hf⟩ := obd hf
  refine cRiS (As := [.int a4]) (rest := [.int ((r_1 + r_2) + r_3)]) ⟨hx, hb, hml, hown, hts⟩ (m_X1_charactersIn l G cA a4 r_4 hr_4) (cw_X1_charactersIn hts wi_226 ⟨Nat.le_of_ble_eq_true rfl, Nat.le_of_ble_eq_true rfl⟩) hK va_Pnil rfl hl.1 rfl (Nat.le_of_ble_eq_true rfl) dX6_type_16 ⟨Nat.zero_le _, Nat.zero_le _⟩ ?_
  refine lv_iadd hx hb dX6_type_19 ?_
  refine lv_iload hx hb dX6_type_20 (lv_at hl 5 rfl) ?_
  obtain ⟨r_5, hr_5, hf⟩ := obd hf
  refine cRiS (As := [.int a5]) (rest := [.int (((r_1 + r_2) + r_3) + r_4)]) ⟨hx, hb, hml, hown, hts⟩ (m_X1_charactersIn l G cA a5 r_5 hr_5) (cw_X1_charactersIn hts wi_226 ⟨Nat.le_of_ble_eq_true rfl, Nat.le_of_ble_eq_true rfl⟩) hK va_Pnil rfl hl.1 rfl (Nat.le_of_ble_eq_true rfl) dX6_type_22 ⟨Nat.zero_le _, Nat.zero_le _⟩ ?_
  refine lv_iadd hx hb dX6_type_25 ?_
  obtain ⟨y_6, hq, hf⟩ := obd hf
  have hy_6 : ((((r_1 + r_2) + r_3) + r_4) + r_5) = y_6 := Option.some.inj hq
  rw [hy_6]
  refine lv_istore (lv' := [(6, .int y_6), (0, .ref (Q 0 0)), (1, .int a1), (2, .int a2), (3, .int a3), (4, .int a4), (5, .int a5)]) hx hb dX6_type_26 hl (by decide) rfl (fun ls hl => ?_)
  refine lv_aload_n hx hb dX6_type_28 rfl (lv_at hl 1 rfl) ?_
  refine va_get (D := G) (ci := 4) (v := .ref (Q 3 0)) (C := RX6) (T := TX6) (N := 6) hx hb hts fin_X6 hown hK.1 hP 0 rfl rfl 3 (by decide) (hts _ wi_174) (fun _ h9 => h9) rfl dX6_type_29 ?_
  obtain ⟨r_7, hr_7, hf⟩ := obd hf
  refine cRiV (As := []) (rest := []) ⟨hx, hb, hml, hown, hts⟩ (m_X1_length l G cA (Q 3) (gD_line zD) r_7 hr_7) (cw_X1_length hts wi_194 ⟨Nat.le_of_ble_eq_true rfl, Nat.le_of_ble_eq_true rfl⟩) hK (pk hP [10, 11] (subC_line cA Q zD)) (va_recv hK.1 hP (ci := 0) (q0 := 10) rfl rfl) rfl hl.1 rfl (Nat.le_of_ble_eq_true rfl) dX6_type_32 ⟨Nat.zero_le _, Nat.zero_le _⟩ ?_
  refine lv_iload hx hb dX6_type_35 (lv_at hl 0 rfl) ?_
  refine lv_iadd hx hb dX6_type_37 ?_
  refine lv_bipush (v := (100 : Int32)) hx hb dX6_type_38 (by decide) ?_
  refine lv_icmp_le (tgt := 53) hx hb dX6_type_40 (by decide) (fun c_8 => ?_) (fun c_8 => ?_)
  · rw [if_pos (c_8)] at hf
    refine lv_aload_n hx hb dX6_type_53 rfl (lv_at hl 1 rfl) ?_
    refine va_get (D := G) (ci := 4) (v := .ref (Q 3 0)) (C := RX6) (T := TX6) (N := 6) hx hb hts fin_X6 hown hK.1 hP 0 rfl rfl 3 (by decide) (hts _ wi_174) (fun _ h9 => h9) rfl dX6_type_54 ?_
    refine lv_iload_n hx hb dX6_type_57 rfl (lv_at hl 2 rfl) ?_
    obtain ⟨r_9, hr_9, hf⟩ := obd hf
    refine cWvV (As := [.int a1]) (rest := []) (W1 := ((wDesk cA Q (uD_line zD r_9)))) ⟨hx, hb, hml, hown, hts⟩ (m_X1_append l G cA (Q 3) (gD_line zD) a1 r_9 hr_9) (cw_X1_append hts wi_296 ⟨Nat.le_of_ble_eq_true rfl, Nat.le_of_ble_eq_true rfl⟩) hK hP hD hS [10, 11] [0, 1, 2, 3, 4, 5, 6, 7, 8, 9, 47, 48, 12, 13, 14, 15, 16, 17, 18, 19, 20, 21, 22, 23, 24, 25, 26, 27, 28, 29, 30, 31, 32, 33, 34, 35, 36, 37, 38, 39, 40, 41, 42, 43, 44, 45, 46] (subC_line cA Q zD) (by decide) (subB_line cA Q zD r_9) (by decide) (deskAdr cA Q _ _) va_Pnil dj_nil (va_recv hK.1 hP (ci := 0) (q0 := 10) rfl rfl) rfl hl.1 rfl (Nat.le_of_ble_eq_true rfl) dX6_type_58 ⟨Nat.zero_le _, Nat.zero_le _⟩ (fun H locs hP hD hS => ?_)
    refine lv_aload_n hx hb dX6_type_61 rfl (lv_at hl 1 rfl) ?_
    refine va_get (D := G) (ci := 4) (v := .ref (Q 3 0)) (C := RX6) (T := TX6) (N := 6) hx hb hts fin_X6 hown hK.1 hP 0 rfl rfl 3 (by decide) (hts _ wi_174) (fun _ h9 => h9) rfl dX6_type_62 ?_
    refine lv_iload_n hx hb dX6_type_65 rfl (lv_at hl 3 rfl) ?_
    obtain ⟨r_10, hr_10, hf⟩ := obd hf
    refine cWvV (As := [.int a2]) (rest := []) (W1 := ((wDesk cA Q (uD_line (uD_line zD r_9) r_10)))) ⟨hx, hb, hml, hown, hts⟩ (m_X1_append l G cA (Q 3) (gD_line (uD_line zD r_9)) a2 r_10 hr_10) (cw_X1_append hts wi_296 ⟨Nat.le_of_ble_eq_true rfl, Nat.le_of_ble_eq_true rfl⟩) hK hP hD hS [10, 11] [0, 1, 2, 3, 4, 5, 6, 7, 8, 9, 47, 48, 12, 13, 14, 15, 16, 17, 18, 19, 20, 21, 22, 23, 24, 25, 26, 27, 28, 29, 30, 31, 32, 33, 34, 35, 36, 37, 38, 39, 40, 41, 42, 43, 44, 45, 46] (subC_line cA Q (uD_line zD r_9)) (by decide) (subB_line cA Q (uD_line zD r_9) r_10) (by decide) (deskAdr cA Q _ _) va_Pnil dj_nil (va_recv hK.1 hP (ci := 0) (q0 := 10) rfl rfl) rfl hl.1 rfl (Nat.le_of_ble_eq_true rfl) dX6_type_66 ⟨Nat.zero_le _, Nat.zero_le _⟩ (fun H locs hP hD hS => ?_)
    refine lv_aload_n hx hb dX6_type_69 rfl (lv_at hl 1 rfl) ?_
    refine va_get (D := G) (ci := 4) (v := .ref (Q 3 0)) (C := RX6) (T := TX6) (N := 6) hx hb hts fin_X6 hown hK.1 hP 0 rfl rfl 3 (by decide) (hts _ wi_174) (fun _ h9 => h9) rfl dX6_type_70 ?_
    refine lv_iload_n hx hb dX6_type_73 rfl (lv_at hl 4 rfl) ?_
    obtain ⟨r_11, hr_11, hf⟩ := obd hf
    refine cWvV (As := [.int a3]) (rest := []) (W1 := ((wDesk cA Q (uD_line (uD_line (uD_line zD r_9) r_10) r_11)))) ⟨hx, hb, hml, hown, hts⟩ (m_X1_append l G cA (Q 3) (gD_line (uD_line (uD_line zD r_9) r_10)) a3 r_11 hr_11) (cw_X1_append hts wi_296 ⟨Nat.le_of_ble_eq_true rfl, Nat.le_of_ble_eq_true rfl⟩) hK hP hD hS [10, 11] [0, 1, 2, 3, 4, 5, 6, 7, 8, 9, 47, 48, 12, 13, 14, 15, 16, 17, 18, 19, 20, 21, 22, 23, 24, 25, 26, 27, 28, 29, 30, 31, 32, 33, 34, 35, 36, 37, 38, 39, 40, 41, 42, 43, 44, 45, 46] (subC_line cA Q (uD_line (uD_line zD r_9) r_10)) (by decide) (subB_line cA Q (uD_line (uD_line zD r_9) r_10) r_11) (by decide) (deskAdr cA Q _ _) va_Pnil dj_nil (va_recv hK.1 hP (ci := 0) (q0 := 10) rfl rfl) rfl hl.1 rfl (Nat.le_of_ble_eq_true rfl) dX6_type_74 ⟨Nat.zero_le _, Nat.zero_le _⟩ (fun H locs hP hD hS => ?_)
    refine lv_aload_n hx hb dX6_type_77 rfl (lv_at hl 1 rfl) ?_
    refine va_get (D := G) (ci := 4) (v := .ref (Q 3 0)) (C := RX6) (T := TX6) (N := 6) hx hb hts fin_X6 hown hK.1 hP 0 rfl rfl 3 (by decide) (hts _ wi_174) (fun _ h9 => h9) rfl dX6_type_78 ?_
    refine lv_iload hx hb dX6_type_81 (lv_at hl 5 rfl) ?_
    obtain ⟨r_12, hr_12, hf⟩ := obd hf
    refine cWvV (As := [.int a4]) (rest := []) (W1 := ((wDesk cA Q (uD_line (uD_line (uD_line (uD_line zD r_9) r_10) r_11) r_12)))) ⟨hx, hb, hml, hown, hts⟩ (m_X1_append l G cA (Q 3) (gD_line (uD_line (uD_line (uD_line zD r_9) r_10) r_11)) a4 r_12 hr_12) (cw_X1_append hts wi_296 ⟨Nat.le_of_ble_eq_true rfl, Nat.le_of_ble_eq_true rfl⟩) hK hP hD hS [10, 11] [0, 1, 2, 3, 4, 5, 6, 7, 8, 9, 47, 48, 12, 13, 14, 15, 16, 17, 18, 19, 20, 21, 22, 23, 24, 25, 26, 27, 28, 29, 30, 31, 32, 33, 34, 35, 36, 37, 38, 39, 40, 41, 42, 43, 44, 45, 46] (subC_line cA Q (uD_line (uD_line (uD_line zD r_9) r_10) r_11)) (by decide) (subB_line cA Q (uD_line (uD_line (uD_line zD r_9) r_10) r_11) r_12) (by decide) (deskAdr cA Q _ _) va_Pnil dj_nil (va_recv hK.1 hP (ci := 0) (q0 := 10) rfl rfl) rfl hl.1 rfl (Nat.le_of_ble_eq_true rfl) dX6_type_83 ⟨Nat.zero_le _, Nat.zero_le _⟩ (fun H locs hP hD hS => ?_)
    refine lv_aload_n hx hb dX6_type_86 rfl (lv_at hl 1 rfl) ?_
    refine va_get (D := G) (ci := 4) (v := .ref (Q 3 0)) (C := RX6) (T := TX6) (N := 6) hx hb hts fin_X6 hown hK.1 hP 0 rfl rfl 3 (by decide) (hts _ wi_174) (fun _ h9 => h9) rfl dX6_type_87 ?_
    refine lv_iload hx hb dX6_type_90 (lv_at hl 6 rfl) ?_
    obtain ⟨r_13, hr_13, hf⟩ := obd hf
    refine cWvV (As := [.int a5]) (rest := []) (W1 := ((wDesk cA Q (uD_line (uD_line (uD_line (uD_line (uD_line zD r_9) r_10) r_11) r_12) r_13)))) ⟨hx, hb, hml, hown, hts⟩ (m_X1_append l G cA (Q 3) (gD_line (uD_line (uD_line (uD_line (uD_line zD r_9) r_10) r_11) r_12)) a5 r_13 hr_13) (cw_X1_append hts wi_296 ⟨Nat.le_of_ble_eq_true rfl, Nat.le_of_ble_eq_true rfl⟩) hK hP hD hS [10, 11] [0, 1, 2, 3, 4, 5, 6, 7, 8, 9, 47, 48, 12, 13, 14, 15, 16, 17, 18, 19, 20, 21, 22, 23, 24, 25, 26, 27, 28, 29, 30, 31, 32, 33, 34, 35, 36, 37, 38, 39, 40, 41, 42, 43, 44, 45, 46] (subC_line cA Q (uD_line (uD_line (uD_line (uD_line zD r_9) r_10) r_11) r_12)) (by decide) (subB_line cA Q (uD_line (uD_line (uD_line (uD_line zD r_9) r_10) r_11) r_12) r_13) (by decide) (deskAdr cA Q _ _) va_Pnil dj_nil (va_recv hK.1 hP (ci := 0) (q0 := 10) rfl rfl) rfl hl.1 rfl (Nat.le_of_ble_eq_true rfl) dX6_type_92 ⟨Nat.zero_le _, Nat.zero_le _⟩ (fun H locs hP hD hS => ?_)
    refine lv_aload_n hx hb dX6_type_95 rfl (lv_at hl 1 rfl) ?_
    refine va_get (D := G) (ci := 4) (v := .ref (Q 3 0)) (C := RX6) (T := TX6) (N := 6) hx hb hts fin_X6 hown hK.1 hP 0 rfl rfl 3 (by decide) (hts _ wi_174) (fun _ h9 => h9) rfl dX6_type_96 ?_
    obtain ⟨r_14, hr_14, hf⟩ := obd hf
    refine cRiV (As := []) (rest := []) ⟨hx, hb, hml, hown, hts⟩ (m_X1_length l G cA (Q 3) (gD_line (uD_line (uD_line (uD_line (uD_line (uD_line zD r_9) r_10) r_11) r_12) r_13)) r_14 hr_14) (cw_X1_length hts wi_194 ⟨Nat.le_of_ble_eq_true rfl, Nat.le_of_ble_eq_true rfl⟩) hK (pk hP [10, 11] (subC_line cA Q (uD_line (uD_line (uD_line (uD_line (uD_line zD r_9) r_10) r_11) r_12) r_13))) (va_recv hK.1 hP (ci := 0) (q0 := 10) rfl rfl) rfl hl.1 rfl (Nat.le_of_ble_eq_true rfl) dX6_type_99 ⟨Nat.zero_le _, Nat.zero_le _⟩ ?_
    cases hf
    refine W.widen (k := 1) (n := 6) (Nat.zero_le _) (Nat.zero_le _) ?_
    exact vx_ret (W.iret hx hb hr (fun t ht hW => ⟨⟨_, (), rfl, ⟨rfl, rfl⟩, toT ht hP⟩, hS.F ht⟩) hS.2.2 dX6_type_102 hlocks)
  · rw [if_neg (c_8)] at hf
    cases hf
    exact k_ISE hx hb htr hown hts hxo hS (hl.1.trans hml.symm) 58 "the line would be too long" (by decide) dX6_type_43 dX6_type_46 dX6_type_47 dX6_type_49 dX6_type_52 hout (Nat.le_of_ble_eq_true rfl) (Nat.le_of_ble_eq_true rfl) (Nat.le_of_ble_eq_true rfl) (Nat.le_of_ble_eq_true rfl) hlocks hP

set_option maxRecDepth 100000 in
theorem m_X6_type (l : Launch) (G : va_G) (cA : Nat → ClassId) (htr : l.stackTraces = false) (sa : Nat → Nat) (Q : Nat → Nat → Nat) (zD : DeskS) (a1 : Int32) (a2 : Int32) (a3 : Int32) (a4 : Int32) (a5 : Int32) (res : Int32 × Int32 × DeskS) (hf : f_X6_type zD a1 a2 a3 a4 a5 = some res) : MXi l yX6_type (.code yX6_type cX6_type 7 (some .int) :: wd) rm_X6_type G cA sa [.ref (Q 0 0), .int a1, .int a2, .int a3, .int a4, .int a5] ((wDesk cA Q zD)) ((wDesk cA Q res.2.2)) res.1 res.2.1 := by
  refine vx_ofW (cc := cX6_type) (maxL := 7) (ret := (some .int)) (by decide) rfl ?_
  intro p e s m args below meth c s₁ B hml hout hv
  obtain ⟨rfl, hK, hP, hD0, hxo⟩ := hv
  have C0 : Amb p s m ([.ref (Q 0 0), .int a1, .int a2, .int a3, .int a4, .int a5] : List Value).toArray meth c cX6_type RX6 7 (some .int) G cA (adr ((wDesk cA Q zD))) [] := ⟨B.exec, B.bytes, B.returns, hml, findClass_of_methodNamed B.named, fun w h => atoms_spec (ws := (.code yX6_type cX6_type 7 (some .int) :: wd)) B.pre w (List.mem_cons_of_mem _ h), B.notSynchronized, hK, va_Pnil, fun k q h => by simp at h⟩
  have hl := lv_entry ([.ref (Q 0 0), .int a1, .int a2, .int a3, .int a4, .int a5]) (n := 7) (Nat.le_of_ble_eq_true rfl)
  rw [lg_entry_eq]
  generalize (lg_sl ([.ref (Q 0 0), .int a1, .int a2, .int a3, .int a4, .int a5]) ++ List.replicate (7 - (lg_sl ([.ref (Q 0 0), .int a1, .int a2, .int a3, .int a4, .int a5])).length) Slot.unset).toArray = ls at hl ⊢
  have hl : lv_has ls 7 [(0, .ref (Q 0 0)), (1, .int a1), (2, .int a2), (3, .int a3), (4, .int a4), (5, .int a5)] := hl
  exact b_X6_type_0 (W9 := ((wDesk cA Q zD))) sa Q   C0 ⟨htr, hxo, hout⟩ zD a1 a2 a3 a4 a5 s.heap [] ls hP (adr.self hD0) va_S.rf hl hf
theorem cw_X6_type {R : Room} {s : State} {args : Array Value} {own : String} {index : Nat} (ht : ∀ w ∈ wd, w.before args s = true) (hlink : Cond.methodLink own index yX6_type ∈ wd) (hR : rm_X6_type.frames + 1 ≤ R.frames ∧ 8 + (7 + 11) + rm_X6_type.locals ≤ R.locals) : CallW R s args own RX6 index yX6_type cX6_type 7 (some .int) (.code yX6_type cX6_type 7 (some .int) :: wd) rm_X6_type 1 6 5 := cwV9x (mc := 1) (ms := 6) 5 ht wi_225 wi_223 wi_224 wi_55 hlink (by decide +kernel) rfl rfl hR
def rm_X6_read : Room := { frames := 6, cells := 1, slots := 6, locals := 161 }
def f_X6_read (zD : DeskS) (a1 : Int32) : Option (Int32 × Int32 × DeskS) := (f_X6_isSlot a1).bind fun r_1 => if ¬ r_1 = 0 then (f_X3_readLine 200 (gD_line zD) (gD_rd zD) (gD_work zD)).bind fun r_3 => if ¬ r_3.1 = 0 then some ((0 : Int32), r_3.1, (uD_work (uD_rd zD r_3.2.1) r_3.2.2)) else (f_X6_settle (uD_work (uD_rd zD r_3.2.1) r_3.2.2) a1).bind fun r_5 => some ((0 : Int32), r_5.1, r_5.2) else some ((1 : Int32), (0 : Int32), zD)
set_option maxHeartbeats 4000000 in
set_option maxRecDepth 100000 in
theorem b_X6_read_0 {p : Program} {l : Launch} {e : Env} {s : State} {m : MethodId} {args : Array Value} {below : List Frame} {meth : Method} {c : Code} {G : va_G} {cA : Nat → ClassId} {W9 : va_W} (sa : Nat → Nat) (Q : Nat → Nat → Nat) (C0 : Amb p s m args meth c cX6_read RX6 3 (some .int) G cA (adr W9) []) (X0 : l.stackTraces = false ∧ xOK (adr W9) sa s ∧ ∀ x ∈ c.exceptionTable.toList, False) {res : Int32 × Int32 × DeskS} : ∀ (zD : DeskS) (a1 : Int32) (H : Heap) (locs : List Loc) (ls : Array Slot), va_P G vwCl ((wDesk cA Q zD)) H → va_D (adr W9) ((wDesk cA Q zD)) → va_S (adr W9) s.heap H locs → lv_has ls 3 [(0, .ref (Q 0 0)), (1, .int a1)] → f_X6_read zD a1 = some res → W p l e rm_X6_read s m args below meth c H locs 0 0 (vx_MQ below (qXi G W9 ((wDesk cA Q res.2.2)) res.1 res.2.1) (qXx G W9 ((wDesk cA Q res.2.2)) res.1) args s 1 6 (adr W9)) (F0 m 0 ls []) := by
  obtain ⟨hx, hb, hr, hml, hown, hts, hlocks, hK, hR, hRA⟩ := id C0
  obtain ⟨htr, hxo, hout⟩ := id X0
  intro zD a1 H locs ls hP hD hS hl hf
  unfold f_X6_read at hf
  refine lv_iload_n hx hb dX6_read_0 rfl (lv_at hl 1 rfl) ?_
  obtain ⟨r_1, hr_1, hf⟩ := obd hf
  refine cRiS (As := [.int a1]) (rest := []) ⟨hx, hb, hml, hown, hts⟩ (m_X6_isSlot l G cA a1 r_1 hr_1) (cw_X6_isSlot hts wi_308 ⟨Nat.le_of_ble_eq_true rfl, Nat.le_of_ble_eq_true rfl⟩) hK va_Pnil rfl hl.1 rfl (Nat.le_of_ble_eq_true rfl) dX6_read_1 ⟨Nat.zero_le _, Nat.zero_le _⟩ ?_
  refine lv_if_ne (tgt := 17) hx hb dX6_read_4 (by decide) (fun c_2 => ?_) (fun c_2 => ?_)
  · rw [if_pos (c_2)] at hf
    refine lv_aload_n hx hb dX6_read_17 rfl (lv_at hl 0 rfl) ?_
    refine va_get (D := G) (ci := 4) (v := .ref (Q 4 0)) (C := RX6) (T := TX6) (N := 6) hx hb hts fin_X6 hown hK.1 hP 0 rfl rfl 4 (by decide) (hts _ wi_175) (fun _ h9 => h9) rfl dX6_read_18 ?_
    obtain ⟨r_3, hr_3, hf⟩ := obd hf
    refine cWiV (As := []) (rest := []) (W1 := ((wDesk cA Q (uD_work (uD_rd zD r_3.2.1) r_3.2.2)))) ⟨hx, hb, hml, hown, hts⟩ (m_X3_readLine l G cA (Q 4) (Q 1) 200 (Q 3) (gD_line zD) (gD_rd zD) (gD_work zD) r_3 hr_3) (cw_X3_readLine hts wi_327 ⟨Nat.le_of_ble_eq_true rfl, Nat.le_of_ble_eq_true rfl⟩) hK hP hD hS [12, 2, 3, 4, 5] [0, 1, 48, 49, 50, 51, 6, 7, 8, 9, 10, 11, 47, 13, 14, 15, 16, 17, 18, 19, 20, 21, 22, 23, 24, 25, 26, 27, 28, 29, 30, 31, 32, 33, 34, 35, 36, 37, 38, 39, 40, 41, 42, 43, 44, 45, 46] (subC_rd_work cA Q zD) (by decide) (subB_rd_work cA Q zD r_3.2.1 r_3.2.2) (by decide) (deskAdr cA Q _ _) (pk hP [10, 11] (subC_line cA Q zD)) (dj_own (isC := [12, 2, 3, 4, 5]) hD [10, 11] (subC_rd_work cA Q zD) (subC_line cA Q zD) (by decide)) (va_recv hK.1 hP (ci := 1) (q0 := 12) rfl rfl) rfl hl.1 rfl (Nat.le_of_ble_eq_true rfl) dX6_read_21 ⟨Nat.zero_le _, Nat.zero_le _⟩ (fun H locs hP hD hS => ?_)
    refine lv_istore_n (lv' := [(2, .int r_3.1), (0, .ref (Q 0 0)), (1, .int a1)]) hx hb dX6_read_24 rfl hl (by decide) rfl (fun ls hl => ?_)
    refine lv_iload_n hx hb dX6_read_25 rfl (lv_at hl 0 rfl) ?_
    refine lv_if_ne (tgt := 37) hx hb dX6_read_26 (by decide) (fun c_4 => ?_) (fun c_4 => ?_)
    · rw [if_pos (c_4)] at hf
      refine lv_iload_n hx hb dX6_read_37 rfl (lv_at hl 0 rfl) ?_
      cases hf
      refine W.widen (k := 1) (n := 6) (Nat.zero_le _) (Nat.zero_le _) ?_
      exact vx_ret (W.iret hx hb hr (fun t ht hW => ⟨⟨_, (), rfl, ⟨rfl, rfl⟩, toT ht hP⟩, hS.F ht⟩) hS.2.2 dX6_read_38 hlocks)
    · rw [if_neg (not_not_intro c_4)] at hf
      refine lv_aload_n hx hb dX6_read_29 rfl (lv_at hl 1 rfl) ?_
      refine lv_iload_n hx hb dX6_read_30 rfl (lv_at hl 2 rfl) ?_
      obtain ⟨r_5, hr_5, hf⟩ := obd hf
      refine cWiV (As := [.int a1]) (rest := []) (W1 := ((wDesk cA Q r_5.2))) ⟨hx, hb, hml, hown, hts⟩ (m_X6_settle l G cA Q (uD_work (uD_rd zD r_3.2.1) r_3.2.2) a1 r_5 hr_5) (cw_X6_settle hts wi_448 ⟨Nat.le_of_ble_eq_true rfl, Nat.le_of_ble_eq_true rfl⟩) hK hP hD hS [0, 1, 2, 3, 4, 5, 6, 7, 8, 9, 10, 11, 12, 13, 14, 15, 16, 17, 18, 19, 20, 21, 22, 23, 24, 25, 26, 27, 28, 29, 30, 31, 32, 33, 34, 35, 36, 37, 38, 39, 40, 41, 42, 43, 44, 45, 46] [47, 48, 49, 50, 51, 52, 53, 54, 55, 56, 57, 58, 59, 60, 61, 62, 63, 64, 65, 66, 67, 68, 69, 70, 71, 72, 73, 74, 75, 76, 77, 78, 79, 80, 81, 82, 83, 84, 85, 86, 87, 88, 89, 90, 91, 92, 93] (subC_all cA Q (uD_work (uD_rd zD r_3.2.1) r_3.2.2)) (by decide) (subB_all cA Q (uD_work (uD_rd zD r_3.2.1) r_3.2.2) r_5.2) (by decide) (deskAdr cA Q _ _) va_Pnil dj_nil (va_recv hK.1 hP (ci := 4) (q0 := 0) rfl rfl) rfl hl.1 rfl (Nat.le_of_ble_eq_true rfl) dX6_read_31 ⟨Nat.zero_le _, Nat.zero_le _⟩ (fun H locs hP hD hS => ?_)
      refine lv_goto (tgt := 38) hx hb dX6_read_34 (by decide) ?_
      cases hf
      refine W.widen (k := 1) (n := 6) (Nat.zero_le _) (Nat.zero_le _) ?_
      exact vx_ret (W.iret hx hb hr (fun t ht hW => ⟨⟨_, (), rfl, ⟨rfl, rfl⟩, toT ht hP⟩, hS.F ht⟩) hS.2.2 dX6_read_38 hlocks)
  · rw [if_neg (not_not_intro c_2)] at hf
    cases hf
    exact k_IAE hx hb htr hown hts hxo hS (hl.1.trans hml.symm) 75 "no such slot" (by decide) dX6_read_7 dX6_read_10 dX6_read_11 dX6_read_13 dX6_read_16 hout (Nat.le_of_ble_eq_true rfl) (Nat.le_of_ble_eq_true rfl) (Nat.le_of_ble_eq_true rfl) (Nat.le_of_ble_eq_true rfl) hlocks hP

set_option maxRecDepth 100000 in
theorem m_X6_read (l : Launch) (G : va_G) (cA : Nat → ClassId) (htr : l.stackTraces = false) (sa : Nat → Nat) (Q : Nat → Nat → Nat) (zD : DeskS) (a1 : Int32) (res : Int32 × Int32 × DeskS) (hf : f_X6_read zD a1 = some res) : MXi l yX6_read (.code yX6_read cX6_read 3 (some .int) :: wd) rm_X6_read G cA sa [.ref (Q 0 0), .int a1] ((wDesk cA Q zD)) ((wDesk cA Q res.2.2)) res.1 res.2.1 := by
  refine vx_ofW (cc := cX6_read) (maxL := 3) (ret := (some .int)) (by decide) rfl ?_
  intro p e s m args below meth c s₁ B hml hout hv
  obtain ⟨rfl, hK, hP, hD0, hxo⟩ := hv
  have C0 : Amb p s m ([.ref (Q 0 0), .int a1] : List Value).toArray meth c cX6_read RX6 3 (some .int) G cA (adr ((wDesk cA Q zD))) [] := ⟨B.exec, B.bytes, B.returns, hml, findClass_of_methodNamed B.named, fun w h => atoms_spec (ws := (.code yX6_read cX6_read 3 (some .int) :: wd)) B.pre w (List.mem_cons_of_mem _ h), B.notSynchronized, hK, va_Pnil, fun k q h => by simp at h⟩
  have hl := lv_entry ([.ref (Q 0 0), .int a1]) (n := 3) (Nat.le_of_ble_eq_true rfl)
  rw [lg_entry_eq]
  generalize (lg_sl ([.ref (Q 0 0), .int a1]) ++ List.replicate (3 - (lg_sl ([.ref (Q 0 0), .int a1])).length) Slot.unset).toArray = ls at hl ⊢
  have hl : lv_has ls 3 [(0, .ref (Q 0 0)), (1, .int a1)] := hl
  exact b_X6_read_0 (W9 := ((wDesk cA Q zD))) sa Q   C0 ⟨htr, hxo, hout⟩ zD a1 s.heap [] ls hP (adr.self hD0) va_S.rf hl hf
theorem cw_X6_read {R : Room} {s : State} {args : Array Value} {own : String} {index : Nat} (ht : ∀ w ∈ wd, w.before args s = true) (hlink : Cond.methodLink own index yX6_read ∈ wd) (hR : rm_X6_read.frames + 1 ≤ R.frames ∧ 8 + (3 + 11) + rm_X6_read.locals ≤ R.locals) : CallW R s args own RX6 index yX6_read cX6_read 3 (some .int) (.code yX6_read cX6_read 3 (some .int) :: wd) rm_X6_read 1 6 1 := cwV9x (mc := 1) (ms := 6) 1 ht wi_307 wi_305 wi_306 wi_55 hlink (by decide +kernel) rfl rfl hR
def rm_X6_write : Room := { frames := 6, cells := 1, slots := 6, locals := 145 }
def f_X6_write (zD : DeskS) (a1 : Int32) : Option (Int32 × Int32 × DeskS) := (f_X6_isSlot a1).bind fun r_1 => if ¬ r_1 = 0 then if inb a1 8 = true then (f_X5_writeSum 40 (gD_slots zD a1.toNatClampNeg) (gD_wr zD)).bind fun r_4 => (f_X5_length (gD_wr (uD_wr zD r_4))).bind fun r_5 => some ((0 : Int32), r_5, (uD_wr zD r_4)) else none else some ((1 : Int32), (0 : Int32), zD)
set_option maxHeartbeats 4000000 in
set_option maxRecDepth 100000 in
theorem b_X6_write_0 {p : Program} {l : Launch} {e : Env} {s : State} {m : MethodId} {args : Array Value} {below : List Frame} {meth : Method} {c : Code} {G : va_G} {cA : Nat → ClassId} {W9 : va_W} (sa : Nat → Nat) (Q : Nat → Nat → Nat) (C0 : Amb p s m args meth c cX6_write RX6 2 (some .int) G cA (adr W9) []) (X0 : l.stackTraces = false ∧ xOK (adr W9) sa s ∧ ∀ x ∈ c.exceptionTable.toList, False) {res : Int32 × Int32 × DeskS} : ∀ (zD : DeskS) (a1 : Int32) (H : Heap) (locs : List Loc) (ls : Array Slot), va_P G vwCl ((wDesk cA Q zD)) H → va_D (adr W9) ((wDesk cA Q zD)) → va_S (adr W9) s.heap H locs → lv_has ls 2 [(0, .ref (Q 0 0)), (1, .int a1)] → f_X6_write zD a1 = some res → W p l e rm_X6_write s m args below meth c H locs 0 0 (vx_MQ below (qXi G W9 ((wDesk cA Q res.2.2)) res.1 res.2.1) (qXx G W9 ((wDesk cA Q res.2.2)) res.1) args s 1 6 (adr W9)) (F0 m 0 ls []) := by
  obtain ⟨hx, hb, hr, hml, hown, hts, hlocks, hK, hR, hRA⟩ := id C0
  obtain ⟨htr, hxo, hout⟩ := id X0
  intro zD a1 H locs ls hP hD hS hl hf
  unfold f_X6_write at hf
  refine lv_iload_n hx hb dX6_write_0 rfl (lv_at hl 1 rfl) ?_
  obtain ⟨r_1, hr_1, hf⟩ := obd hf
  refine cRiS (As := [.int a1]) (rest := []) ⟨hx, hb, hml, hown, hts⟩ (m_X6_isSlot l G cA a1 r_1 hr_1) (cw_X6_isSlot hts wi_308 ⟨Nat.le_of_ble_eq_true rfl, Nat.le_of_ble_eq_true rfl⟩) hK va_Pnil rfl hl.1 rfl (Nat.le_of_ble_eq_true rfl) dX6_write_1 ⟨Nat.zero_le _, Nat.zero_le _⟩ ?_
  refine lv_if_ne (tgt := 17) hx hb dX6_write_4 (by decide) (fun c_2 => ?_) (fun c_2 => ?_)
  · rw [if_pos (c_2)] at hf
    refine lv_aload_n hx hb dX6_write_17 rfl (lv_at hl 0 rfl) ?_
    refine va_get (D := G) (ci := 4) (v := .ref (Q 5 0)) (C := RX6) (T := TX6) (N := 6) hx hb hts fin_X6 hown hK.1 hP 0 rfl rfl 5 (by decide) (hts _ wi_176) (fun _ h9 => h9) rfl dX6_write_18 ?_
    refine lv_aload_n hx hb dX6_write_21 rfl (lv_at hl 0 rfl) ?_
    refine va_get (D := G) (ci := 4) (v := .ref (Q 0 1)) (C := RX6) (T := TX6) (N := 6) hx hb hts fin_X6 hown hK.1 hP 0 rfl rfl 0 (by decide) (hts _ wi_171) (fun _ h9 => h9) rfl dX6_write_22 ?_
    refine lv_iload_n hx hb dX6_write_25 rfl (lv_at hl 1 rfl) ?_
    obtain ⟨hi_3, hf⟩ := oif hf
    refine va_aldq hx hb hK.1 hP 1 3 rfl rfl (inb_in hi_3) dX6_write_26 ?_
    refine W.eq (g2 := F0 m 27 ls [.ref (Q (6 + a1.toNatClampNeg) 0), .ref (Q 5 0)]) rfl ?_
    obtain ⟨r_4, hr_4, hf⟩ := obd hf
    refine cWvV (As := [.ref (Q (6 + a1.toNatClampNeg) 0)]) (rest := []) (W1 := ((wDesk cA Q (uD_wr zD r_4)))) ⟨hx, hb, hml, hown, hts⟩ (m_X5_writeSum l G cA (Q 5) (Q (6 + a1.toNatClampNeg)) 40 (gD_slots zD a1.toNatClampNeg) (gD_wr zD) r_4 hr_4) (cw_X5_writeSum hts wi_471 ⟨Nat.le_of_ble_eq_true rfl, Nat.le_of_ble_eq_true rfl⟩) hK hP hD hS [13, 14] [0, 1, 2, 3, 4, 5, 6, 7, 8, 9, 10, 11, 12, 47, 48, 15, 16, 17, 18, 19, 20, 21, 22, 23, 24, 25, 26, 27, 28, 29, 30, 31, 32, 33, 34, 35, 36, 37, 38, 39, 40, 41, 42, 43, 44, 45, 46] (subC_wr cA Q zD) (by decide) (subB_wr cA Q zD r_4) (by decide) (deskAdr cA Q _ _) (pk hP (sIs a1.toNatClampNeg) (slotC cA Q zD (inb8 hi_3))) (dj_own (isC := [13, 14]) hD (sIs a1.toNatClampNeg) (subC_wr cA Q zD) (slotC cA Q zD (inb8 hi_3)) (slotOut _ (by decide))) (va_recv hK.1 hP (ci := 3) (q0 := 13) rfl rfl) rfl hl.1 rfl (Nat.le_of_ble_eq_true rfl) dX6_write_27 ⟨Nat.zero_le _, Nat.zero_le _⟩ (fun H locs hP hD hS => ?_)
    refine lv_aload_n hx hb dX6_write_30 rfl (lv_at hl 0 rfl) ?_
    refine va_get (D := G) (ci := 4) (v := .ref (Q 5 0)) (C := RX6) (T := TX6) (N := 6) hx hb hts fin_X6 hown hK.1 hP 0 rfl rfl 5 (by decide) (hts _ wi_176) (fun _ h9 => h9) rfl dX6_write_31 ?_
    obtain ⟨r_5, hr_5, hf⟩ := obd hf
    refine cRiV (As := []) (rest := []) ⟨hx, hb, hml, hown, hts⟩ (m_X5_length l G cA (Q 5) (gD_wr (uD_wr zD r_4)) r_5 hr_5) (cw_X5_length hts wi_526 ⟨Nat.le_of_ble_eq_true rfl, Nat.le_of_ble_eq_true rfl⟩) hK (pk hP [13, 14] (subC_wr cA Q (uD_wr zD r_4))) (va_recv hK.1 hP (ci := 3) (q0 := 13) rfl rfl) rfl hl.1 rfl (Nat.le_of_ble_eq_true rfl) dX6_write_34 ⟨Nat.zero_le _, Nat.zero_le _⟩ ?_
    cases hf
    refine W.widen (k := 1) (n := 6) (Nat.zero_le _) (Nat.zero_le _) ?_
    exact vx_ret (W.iret hx hb hr (fun t ht hW => ⟨⟨_, (), rfl, ⟨rfl, rfl⟩, toT ht hP⟩, hS.F ht⟩) hS.2.2 dX6_write_37 hlocks)
  · rw [if_neg (not_not_intro c_2)] at hf
    cases hf
    exact k_IAE hx hb htr hown hts hxo hS (hl.1.trans hml.symm) 75 "no such slot" (by decide) dX6_write_7 dX6_write_10 dX6_write_11 dX6_write_13 dX6_write_16 hout (Nat.le_of_ble_eq_true rfl) (Nat.le_of_ble_eq_true rfl) (Nat.le_of_ble_eq_true rfl) (Nat.le_of_ble_eq_true rfl) hlocks hP

set_option maxRecDepth 100000 in
theorem m_X6_write (l : Launch) (G : va_G) (cA : Nat → ClassId) (htr : l.stackTraces = false) (sa : Nat → Nat) (Q : Nat → Nat → Nat) (zD : DeskS) (a1 : Int32) (res : Int32 × Int32 × DeskS) (hf : f_X6_write zD a1 = some res) : MXi l yX6_write (.code yX6_write cX6_write 2 (some .int) :: wd) rm_X6_write G cA sa [.ref (Q 0 0), .int a1] ((wDesk cA Q zD)) ((wDesk cA Q res.2.2)) res.1 res.2.1 := by
  refine vx_ofW (cc := cX6_write) (maxL := 2) (ret := (some .int)) (by decide) rfl ?_
  intro p e s m args below meth c s₁ B hml hout hv
  obtain ⟨rfl, hK, hP, hD0, hxo⟩ := hv
  have C0 : Amb p s m ([.ref (Q 0 0), .int a1] : List Value).toArray meth c cX6_write RX6 2 (some .int) G cA (adr ((wDesk cA Q zD))) [] := ⟨B.exec, B.bytes, B.returns, hml, findClass_of_methodNamed B.named, fun w h => atoms_spec (ws := (.code yX6_write cX6_write 2 (some .int) :: wd)) B.pre w (List.mem_cons_of_mem _ h), B.notSynchronized, hK, va_Pnil, fun k q h => by simp at h⟩
  have hl := lv_entry ([.ref (Q 0 0), .int a1]) (n := 2) (Nat.le_of_ble_eq_true rfl)
  rw [lg_entry_eq]
  generalize (lg_sl ([.ref (Q 0 0), .int a1]) ++ List.replicate (2 - (lg_sl ([.ref (Q 0 0), .int a1])).length) Slot.unset).toArray = ls at hl ⊢
  have hl : lv_has ls 2 [(0, .ref (Q 0 0)), (1, .int a1)] := hl
  exact b_X6_write_0 (W9 := ((wDesk cA Q zD))) sa Q   C0 ⟨htr, hxo, hout⟩ zD a1 s.heap [] ls hP (adr.self hD0) va_S.rf hl hf
theorem cw_X6_write {R : Room} {s : State} {args : Array Value} {own : String} {index : Nat} (ht : ∀ w ∈ wd, w.before args s = true) (hlink : Cond.methodLink own index yX6_write ∈ wd) (hR : rm_X6_write.frames + 1 ≤ R.frames ∧ 8 + (2 + 11) + rm_X6_write.locals ≤ R.locals) : CallW R s args own RX6 index yX6_write cX6_write 2 (some .int) (.code yX6_write cX6_write 2 (some .int) :: wd) rm_X6_write 1 6 1 := cwV9x (mc := 1) (ms := 6) 1 ht wi_470 wi_468 wi_469 wi_55 hlink (by decide +kernel) rfl rfl hR
def rm_X6_add : Room := { frames := 6, cells := 1, slots := 6, locals := 116 }
def f_X6_add_105 (zD : DeskS) (x1 : Int32) (x2 : Int32) (x3 : Int32) (x4 : Int32) (x5 : Int32) : Option (Int32 × Int32 × DeskS) := (f_X4_clear 200 (gD_work zD)).bind fun r_1 => if inb x2 8 = true then (f_X4_putAll 200 40 (gD_slots (uD_work zD r_1) x2.toNatClampNeg) (gD_work (uD_work zD r_1)) (1 : Int64) (1 : Int64)).bind fun r_3 => if inb x3 8 = true then (f_X4_putAll 200 40 (gD_slots (uD_work (uD_work zD r_1) r_3) x3.toNatClampNeg) (gD_work (uD_work (uD_work zD r_1) r_3)) x4.toInt64 x5.toInt64).bind fun r_5 => (f_X6_settle (uD_work (uD_work (uD_work zD r_1) r_3) r_5) x1).bind fun r_6 => some ((0 : Int32), r_6.1, r_6.2) else none else none
set_option maxHeartbeats 4000000 in
set_option maxRecDepth 100000 in
theorem b_X6_add_105 {p : Program} {l : Launch} {e : Env} {s : State} {m : MethodId} {args : Array Value} {below : List Frame} {meth : Method} {c : Code} {G : va_G} {cA : Nat → ClassId} {W9 : va_W} (sa : Nat → Nat) (Q : Nat → Nat → Nat) (C0 : Amb p s m args meth c cX6_add RX6 6 (some .int) G cA (adr W9) []) (X0 : l.stackTraces = false ∧ xOK (adr W9) sa s ∧ ∀ x ∈ c.exceptionTable.toList, False) {res : Int32 × Int32 × DeskS} : ∀ (zD : DeskS) (x1 : Int32) (x2 : Int32) (x3 : Int32) (x4 : Int32) (x5 : Int32) (H : Heap) (locs : List Loc) (ls : Array Slot), va_P G vwCl ((wDesk cA Q zD)) H → va_D (adr W9) ((wDesk cA Q zD)) → va_S (adr W9) s.heap H locs → lv_has ls 6 [(0, .ref (Q 0 0)), (1, .int x1), (2, .int x2), (3, .int x3), (4, .int x4), (5, .int x5)] → f_X6_add_105 zD x1 x2 x3 x4 x5 = some res → W p l e rm_X6_add s m args below meth c H locs 0 0 (vx_MQ below (qXi G W9 ((wDesk cA Q res.2.2)) res.1 res.2.1) (qXx G W9 ((wDesk cA Q res.2.2)) res.1) args s 1 6 (adr W9)) (F0 m 105 ls []) := by
  obtain ⟨hx, hb, hr, hml, hown, hts, hlocks, hK, hR, hRA⟩ := id C0
  obtain ⟨htr, hxo, hout⟩ := id X0
  intro zD x1 x2 x3 x4 x5 H locs ls hP hD hS hl hf
  unfold f_X6_add_105 at hf
  refine lv_aload_n hx hb dX6_add_105 rfl (lv_at hl 0 rfl) ?_
  refine va_get (D := G) (ci := 4) (v := .ref (Q 1 0)) (C := RX6) (T := TX6) (N := 6) hx hb hts fin_X6 hown hK.1 hP 0 rfl rfl 1 (by decide) (hts _ wi_172) (fun _ h9 => h9) rfl dX6_add_106 ?_
  obtain ⟨r_1, hr_1, hf⟩ := obd hf
  refine cWvV (As := []) (rest := []) (W1 := ((wDesk cA Q (uD_work zD r_1)))) ⟨hx, hb, hml, hown, hts⟩ (m_X4_clear l G cA (Q 1) 200 (gD_work zD) r_1 hr_1) (cw_X4_clear hts wi_545 ⟨Nat.le_of_ble_eq_true rfl, Nat.le_of_ble_eq_true rfl⟩) hK hP hD hS [2, 3, 4, 5] [0, 1, 47, 48, 49, 50, 6, 7, 8, 9, 10, 11, 12, 13, 14, 15, 16, 17, 18, 19, 20, 21, 22, 23, 24, 25, 26, 27, 28, 29, 30, 31, 32, 33, 34, 35, 36, 37, 38, 39, 40, 41, 42, 43, 44, 45, 46] (subC_work cA Q zD) (by decide) (subB_work cA Q zD r_1) (by decide) (deskAdr cA Q _ _) va_Pnil dj_nil (va_recv hK.1 hP (ci := 2) (q0 := 2) rfl rfl) rfl hl.1 rfl (Nat.le_of_ble_eq_true rfl) dX6_add_109 ⟨Nat.zero_le _, Nat.zero_le _⟩ (fun H locs hP hD hS => ?_)
  refine lv_aload_n hx hb dX6_add_112 rfl (lv_at hl 0 rfl) ?_
  refine va_get (D := G) (ci := 4) (v := .ref (Q 1 0)) (C := RX6) (T := TX6) (N := 6) hx hb hts fin_X6 hown hK.1 hP 0 rfl rfl 1 (by decide) (hts _ wi_172) (fun _ h9 => h9) rfl dX6_add_113 ?_
  refine lv_aload_n hx hb dX6_add_116 rfl (lv_at hl 0 rfl) ?_
  refine va_get (D := G) (ci := 4) (v := .ref (Q 0 1)) (C := RX6) (T := TX6) (N := 6) hx hb hts fin_X6 hown hK.1 hP 0 rfl rfl 0 (by decide) (hts _ wi_171) (fun _ h9 => h9) rfl dX6_add_117 ?_
  refine lv_iload_n hx hb dX6_add_120 rfl (lv_at hl 2 rfl) ?_
  obtain ⟨hi_2, hf⟩ := oif hf
  refine va_aldq hx hb hK.1 hP 1 3 rfl rfl (inb_in hi_2) dX6_add_121 ?_
  refine W.eq (g2 := F0 m 122 ls [.ref (Q (6 + x2.toNatClampNeg) 0), .ref (Q 1 0)]) rfl ?_
  refine lv_lconst (v := (1 : Int64)) hx hb dX6_add_122 (by decide) ?_
  refine lv_lconst (v := (1 : Int64)) hx hb dX6_add_123 (by decide) ?_
  obtain ⟨r_3, hr_3, hf⟩ := obd hf
  refine cWvV (As := [.ref (Q (6 + x2.toNatClampNeg) 0), .long (1 : Int64), .long (1 : Int64)]) (rest := []) (W1 := ((wDesk cA Q (uD_work (uD_work zD r_1) r_3)))) ⟨hx, hb, hml, hown, hts⟩ (m_X4_putAll l G cA (Q 1) 200 (Q (6 + x2.toNatClampNeg)) 40 (gD_slots (uD_work zD r_1) x2.toNatClampNeg) (gD_work (uD_work zD r_1)) (1 : Int64) (1 : Int64) r_3 hr_3) (cw_X4_putAll hts wi_546 ⟨Nat.le_of_ble_eq_true rfl, Nat.le_of_ble_eq_true rfl⟩) hK hP hD hS [2, 3, 4, 5] [0, 1, 47, 48, 49, 50, 6, 7, 8, 9, 10, 11, 12, 13, 14, 15, 16, 17, 18, 19, 20, 21, 22, 23, 24, 25, 26, 27, 28, 29, 30, 31, 32, 33, 34, 35, 36, 37, 38, 39, 40, 41, 42, 43, 44, 45, 46] (subC_work cA Q (uD_work zD r_1)) (by decide) (subB_work cA Q (uD_work zD r_1) r_3) (by decide) (deskAdr cA Q _ _) (pk hP (sIs x2.toNatClampNeg) (slotC cA Q (uD_work zD r_1) (inb8 hi_2))) (dj_own (isC := [2, 3, 4, 5]) hD (sIs x2.toNatClampNeg) (subC_work cA Q (uD_work zD r_1)) (slotC cA Q (uD_work zD r_1) (inb8 hi_2)) (slotOut _ (by decide))) (va_recv hK.1 hP (ci := 2) (q0 := 2) rfl rfl) rfl hl.1 rfl (Nat.le_of_ble_eq_true rfl) dX6_add_124 ⟨Nat.zero_le _, Nat.zero_le _⟩ (fun H locs hP hD hS => ?_)
  refine lv_aload_n hx hb dX6_add_127 rfl (lv_at hl 0 rfl) ?_
  refine va_get (D := G) (ci := 4) (v := .ref (Q 1 0)) (C := RX6) (T := TX6) (N := 6) hx hb hts fin_X6 hown hK.1 hP 0 rfl rfl 1 (by decide) (hts _ wi_172) (fun _ h9 => h9) rfl dX6_add_128 ?_
  refine lv_aload_n hx hb dX6_add_131 rfl (lv_at hl 0 rfl) ?_
  refine va_get (D := G) (ci := 4) (v := .ref (Q 0 1)) (C := RX6) (T := TX6) (N := 6) hx hb hts fin_X6 hown hK.1 hP 0 rfl rfl 0 (by decide) (hts _ wi_171) (fun _ h9 => h9) rfl dX6_add_132 ?_
  refine lv_iload_n hx hb dX6_add_135 rfl (lv_at hl 3 rfl) ?_
  obtain ⟨hi_4, hf⟩ := oif hf
  refine va_aldq hx hb hK.1 hP 1 3 rfl rfl (inb_in hi_4) dX6_add_136 ?_
  refine W.eq (g2 := F0 m 137 ls [.ref (Q (6 + x3.toNatClampNeg) 0), .ref (Q 1 0)]) rfl ?_
  refine lv_iload hx hb dX6_add_137 (lv_at hl 4 rfl) ?_
  refine lv_i2l (v := x4.toInt64) hx hb dX6_add_139 rfl ?_
  refine lv_iload hx hb dX6_add_140 (lv_at hl 5 rfl) ?_
  refine lv_i2l (v := x5.toInt64) hx hb dX6_add_142 rfl ?_
  obtain ⟨r_5, hr_5, hf⟩ := obd hf
  refine cWvV (As := [.ref (Q (6 + x3.toNatClampNeg) 0), .long x4.toInt64, .long x5.toInt64]) (rest := []) (W1 := ((wDesk cA Q (uD_work (uD_work (uD_work zD r_1) r_3) r_5)))) ⟨hx, hb, hml, hown, hts⟩ (m_X4_putAll l G cA (Q 1) 200 (Q (6 + x3.toNatClampNeg)) 40 (gD_slots (uD_work (uD_work zD r_1) r_3) x3.toNatClampNeg) (gD_work (uD_work (uD_work zD r_1) r_3)) x4.toInt64 x5.toInt64 r_5 hr_5) (cw_X4_putAll hts wi_546 ⟨Nat.le_of_ble_eq_true rfl, Nat.le_of_ble_eq_true rfl⟩) hK hP hD hS [2, 3, 4, 5] [0, 1, 47, 48, 49, 50, 6, 7, 8, 9, 10, 11, 12, 13, 14, 15, 16, 17, 18, 19, 20, 21, 22, 23, 24, 25, 26, 27, 28, 29, 30, 31, 32, 33, 34, 35, 36, 37, 38, 39, 40, 41, 42, 43, 44, 45, 46] (subC_work cA Q (uD_work (uD_work zD r_1) r_3)) (by decide) (subB_work cA Q (uD_work (uD_work zD r_1) r_3) r_5) (by decide) (deskAdr cA Q _ _) (pk hP (sIs x3.toNatClampNeg) (slotC cA Q (uD_work (uD_work zD r_1) r_3) (inb8 hi_4))) (dj_own (isC := [2, 3, 4, 5]) hD (sIs x3.toNatClampNeg) (subC_work cA Q (uD_work (uD_work zD r_1) r_3)) (slotC cA Q (uD_work (uD_work zD r_1) r_3) (inb8 hi_4)) (slotOut _ (by decide))) (va_recv hK.1 hP (ci := 2) (q0 := 2) rfl rfl) rfl hl.1 rfl (Nat.le_of_ble_eq_true rfl) dX6_add_143 ⟨Nat.zero_le _, Nat.zero_le _⟩ (fun H locs hP hD hS => ?_)
  refine lv_aload_n hx hb dX6_add_146 rfl (lv_at hl 0 rfl) ?_
  refine lv_iload_n hx hb dX6_add_147 rfl (lv_at hl 1 rfl) ?_
  obtain ⟨r_6, hr_6, hf⟩ := obd hf
  refine cWiV (As := [.int x1]) (rest := []) (W1 := ((wDesk cA Q r_6.2))) ⟨hx, hb, hml, hown, hts⟩ (m_X6_settle l G cA Q (uD_work (uD_work (uD_work zD r_1) r_3) r_5) x1 r_6 hr_6) (cw_X6_settle hts wi_448 ⟨Nat.le_of_ble_eq_true rfl, Nat.le_of_ble_eq_true rfl⟩) hK hP hD hS [0, 1, 2, 3, 4, 5, 6, 7, 8, 9, 10, 11, 12, 13, 14, 15, 16, 17, 18, 19, 20, 21, 22, 23, 24, 25, 26, 27, 28, 29, 30, 31, 32, 33, 34, 35, 36, 37, 38, 39, 40, 41, 42, 43, 44, 45, 46] [47, 48, 49, 50, 51, 52, 53, 54, 55, 56, 57, 58, 59, 60, 61, 62, 63, 64, 65, 66, 67, 68, 69, 70, 71, 72, 73, 74, 75, 76, 77, 78, 79, 80, 81, 82, 83, 84, 85, 86, 87, 88, 89, 90, 91, 92, 93] (subC_all cA Q (uD_work (uD_work (uD_work zD r_1) r_3) r_5)) (by decide) (subB_all cA Q (uD_work (uD_work (uD_work zD r_1) r_3) r_5) r_6.2) (by decide) (deskAdr cA Q _ _) va_Pnil dj_nil (va_recv hK.1 hP (ci := 4) (q0 := 0) rfl rfl) rfl hl.1 rfl (Nat.le_of_ble_eq_true rfl) dX6_add_148 ⟨Nat.zero_le _, Nat.zero_le _⟩ (fun H locs hP hD hS => ?_)
  cases hf
  refine W.widen (k := 1) (n := 6) (Nat.zero_le _) (Nat.zero_le _) ?_
  exact vx_ret (W.iret hx hb hr (fun t ht hW => ⟨⟨_, (), rfl, ⟨rfl, rfl⟩, toT ht hP⟩, hS.F ht⟩) hS.2.2 dX6_add_151 hlocks)
def f_X6_add (zD : DeskS) (a1 : Int32) (a2 : Int32) (a3 : Int32) (a4 : Int32) (a5 : Int32) : Option (Int32 × Int32 × DeskS) := (f_X6_isSlot a1).bind fun r_1 => if r_1 = 0 then some ((1 : Int32), (0 : Int32), zD) else (f_X6_isSlot a2).bind fun r_3 => if r_3 = 0 then some ((1 : Int32), (0 : Int32), zD) else (f_X6_isSlot a3).bind fun r_5 => if ¬ r_5 = 0 then if a4 < (-100 : Int32) then some ((1 : Int32), (0 : Int32), zD) else if (100 : Int32) < a4 then some ((1 : Int32), (0 : Int32), zD) else if a5 < (1 : Int32) then some ((1 : Int32), (0 : Int32), zD) else if a5 ≤ (6 : Int32) then if a4 = a5 then f_X6_add_105  zD a1 a2 a3 a4 a5 else if a4 = (-a5) then f_X6_add_105  zD a1 a2 a3 a4 a5 else if inb a3 8 = true then (f_X4_isSmall 40 (gD_slots zD a3.toNatClampNeg)).bind fun r_14 => if ¬ r_14 = 0 then f_X6_add_105  zD a1 a2 a3 a4 a5 else some ((2 : Int32), (0 : Int32), zD) else none else some ((1 : Int32), (0 : Int32), zD) else some ((1 : Int32), (0 : Int32), zD)
set_option maxHeartbeats 4000000 in
set_option maxRecDepth 100000 in
theorem b_X6_add_0 {p : Program} {l : Launch} {e : Env} {s : State} {m : MethodId} {args : Array Value} {below : List Frame} {meth : Method} {c : Code} {G : va_G} {cA : Nat → ClassId} {W9 : va_W} (sa : Nat → Nat) (Q : Nat → Nat → Nat) (C0 : Amb p s m args meth c cX6_add RX6 6 (some .int) G cA (adr W9) []) (X0 : l.stackTraces = false ∧ xOK (adr W9) sa s ∧ ∀ x ∈ c.exceptionTable.toList, False) {res : Int32 × Int32 × DeskS} : ∀ (zD : DeskS) (a1 : Int32) (a2 : Int32) (a3 : Int32) (a4 : Int32) (a5 : Int32) (H : Heap) (locs : List Loc) (ls : Array Slot), va_P G vwCl ((wDesk cA Q zD)) H → va_D (adr W9) ((wDesk cA Q zD)) → va_S (adr W9) s.heap H locs → lv_has ls 6 [(0, .ref (Q 0 0)), (1, .int a1), (2, .int a2), (3, .int a3), (4, .int a4), (5, .int a5)] → f_X6_add zD a1 a2 a3 a4 a5 = some res → W p l e rm_X6_add s m args below meth c H locs 0 0 (vx_MQ below (qXi G W9 ((wDesk cA Q res.2.2)) res.1 res.2.1) (qXx G W9 ((wDesk cA Q res.2.2)) res.1) args s 1 6 (adr W9)) (F0 m 0 ls []) := by
  obtain ⟨hx, hb, hr, hml, hown, hts, hlocks, hK, hR, hRA⟩ := id C0
  obtain ⟨htr, hxo, hout⟩ := id X0
  intro zD a1 a2 a3 a4 a5 H locs ls hP hD hS hl hf
  unfold f_X6_add at hf
  refine lv_iload_n hx hb dX6_add_0 rfl (lv_at hl 1 rfl) ?_
  obtain ⟨r_1, hr_1, hf⟩ := obd hf
  refine cRiS (As := [.int a1]) (rest := []) ⟨hx, hb, hml, hown, hts⟩ (m_X6_isSlot l G cA a1 r_1 hr_1) (cw_X6_isSlot hts wi_308 ⟨Nat.le_of_ble_eq_true rfl, Nat.le_of_ble_eq_true rfl⟩) hK va_Pnil rfl hl.1 rfl (Nat.le_of_ble_eq_true rfl) dX6_add_1 ⟨Nat.zero_le _, Nat.zero_le _⟩ ?_
  refine lv_if_eq (tgt := 21) hx hb dX6_add_4 (by decide) (fun c_2 => ?_) (fun c_2 => ?_)
  · rw [if_pos (c_2)] at hf
    cases hf
    exact k_IAE hx hb htr hown hts hxo hS (hl.1.trans hml.symm) 75 "no such slot" (by decide) dX6_add_21 dX6_add_24 dX6_add_25 dX6_add_27 dX6_add_30 hout (Nat.le_of_ble_eq_true rfl) (Nat.le_of_ble_eq_true rfl) (Nat.le_of_ble_eq_true rfl) (Nat.le_of_ble_eq_true rfl) hlocks hP
  · rw [if_neg (c_2)] at hf
    refine lv_iload_n hx hb dX6_add_7 rfl (lv_at hl 2 rfl) ?_
    obtain ⟨r_3, hr_3, hf⟩ := obd hf
    refine cRiS (As := [.int a2]) (rest := []) ⟨hx, hb, hml, hown, hts⟩ (m_X6_isSlot l G cA a2 r_3 hr_3) (cw_X6_isSlot hts wi_308 ⟨Nat.le_of_ble_eq_true rfl, Nat.le_of_ble_eq_true rfl⟩) hK va_Pnil rfl hl.1 rfl (Nat.le_of_ble_eq_true rfl) dX6_add_8 ⟨Nat.zero_le _, Nat.zero_le _⟩ ?_
    refine lv_if_eq (tgt := 21) hx hb dX6_add_11 (by decide) (fun c_4 => ?_) (fun c_4 => ?_)
    · rw [if_pos (c_4)] at hf
      cases hf
      exact k_IAE hx hb htr hown hts hxo hS (hl.1.trans hml.symm) 75 "no such slot" (by decide) dX6_add_21 dX6_add_24 dX6_add_25 dX6_add_27 dX6_add_30 hout (Nat.le_of_ble_eq_true rfl) (Nat.le_of_ble_eq_true rfl) (Nat.le_of_ble_eq_true rfl) (Nat.le_of_ble_eq_true rfl) hlocks hP
    · rw [if_neg (c_4)] at hf
      refine lv_iload_n hx hb dX6_add_14 rfl (lv_at hl 3 rfl) ?_
      obtain ⟨r_5, hr_5, hf⟩ := obd hf
      refine cRiS (As := [.int a3]) (rest := []) ⟨hx, hb, hml, hown, hts⟩ (m_X6_isSlot l G cA a3 r_5 hr_5) (cw_X6_isSlot hts wi_308 ⟨Nat.le_of_ble_eq_true rfl, Nat.le_of_ble_eq_true rfl⟩) hK va_Pnil rfl hl.1 rfl (Nat.le_of_ble_eq_true rfl) dX6_add_15 ⟨Nat.zero_le _, Nat.zero_le _⟩ ?_
      refine lv_if_ne (tgt := 31) hx hb dX6_add_18 (by decide) (fun c_6 => ?_) (fun c_6 => ?_)
      · rw [if_pos (c_6)] at hf
        refine lv_iload hx hb dX6_add_31 (lv_at hl 4 rfl) ?_
        refine lv_bipush (v := (-100 : Int32)) hx hb dX6_add_33 (by decide) ?_
        refine lv_icmp_lt (tgt := 58) hx hb dX6_add_35 (by decide) (fun c_7 => ?_) (fun c_7 => ?_)
        · rw [if_pos (c_7)] at hf
          cases hf
          exact k_IAE hx hb htr hown hts hxo hS (hl.1.trans hml.symm) 96 "no such factor" (by decide) dX6_add_58 dX6_add_61 dX6_add_62 dX6_add_64 dX6_add_67 hout (Nat.le_of_ble_eq_true rfl) (Nat.le_of_ble_eq_true rfl) (Nat.le_of_ble_eq_true rfl) (Nat.le_of_ble_eq_true rfl) hlocks hP
        · rw [if_neg (c_7)] at hf
          refine lv_iload hx hb dX6_add_38 (lv_at hl 4 rfl) ?_
          refine lv_bipush (v := (100 : Int32)) hx hb dX6_add_40 (by decide) ?_
          refine lv_icmp_gt (tgt := 58) hx hb dX6_add_42 (by decide) (fun c_8 => ?_) (fun c_8 => ?_)
          · rw [if_pos (c_8)] at hf
            cases hf
            exact k_IAE hx hb htr hown hts hxo hS (hl.1.trans hml.symm) 96 "no such factor" (by decide) dX6_add_58 dX6_add_61 dX6_add_62 dX6_add_64 dX6_add_67 hout (Nat.le_of_ble_eq_true rfl) (Nat.le_of_ble_eq_true rfl) (Nat.le_of_ble_eq_true rfl) (Nat.le_of_ble_eq_true rfl) hlocks hP
          · rw [if_neg (c_8)] at hf
            refine lv_iload hx hb dX6_add_45 (lv_at hl 5 rfl) ?_
            refine lv_iconst (v := 1) hx hb dX6_add_47 (by decide) ?_
            refine lv_icmp_lt (tgt := 58) hx hb dX6_add_48 (by decide) (fun c_9 => ?_) (fun c_9 => ?_)
            · rw [if_pos (c_9)] at hf
              cases hf
              exact k_IAE hx hb htr hown hts hxo hS (hl.1.trans hml.symm) 96 "no such factor" (by decide) dX6_add_58 dX6_add_61 dX6_add_62 dX6_add_64 dX6_add_67 hout (Nat.le_of_ble_eq_true rfl) (Nat.le_of_ble_eq_true rfl) (Nat.le_of_ble_eq_true rfl) (Nat.le_of_ble_eq_true rfl) hlocks hP
            · rw [if_neg (c_9)] at hf
              refine lv_iload hx hb dX6_add_51 (lv_at hl 5 rfl) ?_
              refine lv_bipush (v := (6 : Int32)) hx hb dX6_add_53 (by decide) ?_
              refine lv_icmp_le (tgt := 68) hx hb dX6_add_55 (by decide) (fun c_10 => ?_) (fun c_10 => ?_)
              · rw [if_pos (c_10)] at hf
                refine lv_iload hx hb dX6_add_68 (lv_at hl 4 rfl) ?_
                refine lv_iload hx hb dX6_add_70 (lv_at hl 5 rfl) ?_
                refine lv_icmp_eq (tgt := 105) hx hb dX6_add_72 (by decide) (fun c_11 => ?_) (fun c_11 => ?_)
                · rw [if_pos (c_11)] at hf
                  exact b_X6_add_105 sa Q   C0 X0  zD a1 a2 a3 a4 a5 H locs ls hP hD hS (lv_sub hl [0, 1, 2, 3, 4, 5] rfl) hf
                · rw [if_neg (c_11)] at hf
                  refine lv_iload hx hb dX6_add_75 (lv_at hl 4 rfl) ?_
                  refine lv_iload hx hb dX6_add_77 (lv_at hl 5 rfl) ?_
                  refine lv_ineg hx hb dX6_add_79 ?_
                  refine lv_icmp_eq (tgt := 105) hx hb dX6_add_80 (by decide) (fun c_12 => ?_) (fun c_12 => ?_)
                  · rw [if_pos (c_12)] at hf
                    exact b_X6_add_105 sa Q   C0 X0  zD a1 a2 a3 a4 a5 H locs ls hP hD hS (lv_sub hl [0, 1, 2, 3, 4, 5] rfl) hf
                  · rw [if_neg (c_12)] at hf
                    refine lv_aload_n hx hb dX6_add_83 rfl (lv_at hl 0 rfl) ?_
                    refine va_get (D := G) (ci := 4) (v := .ref (Q 0 1)) (C := RX6) (T := TX6) (N := 6) hx hb hts fin_X6 hown hK.1 hP 0 rfl rfl 0 (by decide) (hts _ wi_171) (fun _ h9 => h9) rfl dX6_add_84 ?_
                    refine lv_iload_n hx hb dX6_add_87 rfl (lv_at hl 3 rfl) ?_
                    obtain ⟨hi_13, hf⟩ := oif hf
                    refine va_aldq hx hb hK.1 hP 1 3 rfl rfl (inb_in hi_13) dX6_add_88 ?_
                    refine W.eq (g2 := F0 m 89 ls [.ref (Q (6 + a3.toNatClampNeg) 0)]) rfl ?_
                    obtain ⟨r_14, hr_14, hf⟩ := obd hf
                    refine cRiV (As := []) (rest := []) ⟨hx, hb, hml, hown, hts⟩ (m_X4_isSmall l G cA (Q (6 + a3.toNatClampNeg)) 40 (gD_slots zD a3.toNatClampNeg) r_14 hr_14) (cw_X4_isSmall hts wi_538 ⟨Nat.le_of_ble_eq_true rfl, Nat.le_of_ble_eq_true rfl⟩) hK (pk hP (sIs a3.toNatClampNeg) (slotC cA Q zD (inb8 hi_13))) (slotRecv hK.1 hP (inb8 hi_13)) rfl hl.1 rfl (Nat.le_of_ble_eq_true rfl) dX6_add_89 ⟨Nat.zero_le _, Nat.zero_le _⟩ ?_
                    refine lv_if_ne (tgt := 105) hx hb dX6_add_92 (by decide) (fun c_15 => ?_) (fun c_15 => ?_)
                    · rw [if_pos (c_15)] at hf
                      exact b_X6_add_105 sa Q   C0 X0  zD a1 a2 a3 a4 a5 H locs ls hP hD hS (lv_sub hl [0, 1, 2, 3, 4, 5] rfl) hf
                    · rw [if_neg (not_not_intro c_15)] at hf
                      cases hf
                      exact k_ISE hx hb htr hown hts hxo hS (hl.1.trans hml.symm) 102 "the second sum is not small" (by decide) dX6_add_95 dX6_add_98 dX6_add_99 dX6_add_101 dX6_add_104 hout (Nat.le_of_ble_eq_true rfl) (Nat.le_of_ble_eq_true rfl) (Nat.le_of_ble_eq_true rfl) (Nat.le_of_ble_eq_true rfl) hlocks hP
              · rw [if_neg (c_10)] at hf
                cases hf
                exact k_IAE hx hb htr hown hts hxo hS (hl.1.trans hml.symm) 96 "no such factor" (by decide) dX6_add_58 dX6_add_61 dX6_add_62 dX6_add_64 dX6_add_67 hout (Nat.le_of_ble_eq_true rfl) (Nat.le_of_ble_eq_true rfl) (Nat.le_of_ble_eq_true rfl) (Nat.le_of_ble_eq_true rfl) hlocks hP
      · rw [if_neg (not_not_intro c_6)] at hf
        cases hf
        exact k_IAE hx hb htr hown hts hxo hS (hl.1.trans hml.symm) 75 "no such slot" (by decide) dX6_add_21 dX6_add_24 dX6_add_25 dX6_add_27 dX6_add_30 hout (Nat.le_of_ble_eq_true rfl) (Nat.le_of_ble_eq_true rfl) (Nat.le_of_ble_eq_true rfl) (Nat.le_of_ble_eq_true rfl) hlocks hP

set_option maxRecDepth 100000 in
theorem m_X6_add (l : Launch) (G : va_G) (cA : Nat → ClassId) (htr : l.stackTraces = false) (sa : Nat → Nat) (Q : Nat → Nat → Nat) (zD : DeskS) (a1 : Int32) (a2 : Int32) (a3 : Int32) (a4 : Int32) (a5 : Int32) (res : Int32 × Int32 × DeskS) (hf : f_X6_add zD a1 a2 a3 a4 a5 = some res) : MXi l yX6_add (.code yX6_add cX6_add 6 (some .int) :: wd) rm_X6_add G cA sa [.ref (Q 0 0), .int a1, .int a2, .int a3, .int a4, .int a5] ((wDesk cA Q zD)) ((wDesk cA Q res.2.2)) res.1 res.2.1 := by
  refine vx_ofW (cc := cX6_add) (maxL := 6) (ret := (some .int)) (by decide) rfl ?_
  intro p e s m args below meth c s₁ B hml hout hv
  obtain ⟨rfl, hK, hP, hD0, hxo⟩ := hv
  have C0 : Amb p s m ([.ref (Q 0 0), .int a1, .int a2, .int a3, .int a4, .int a5] : List Value).toArray meth c cX6_add RX6 6 (some .int) G cA (adr ((wDesk cA Q zD))) [] := ⟨B.exec, B.bytes, B.returns, hml, findClass_of_methodNamed B.named, fun w h => atoms_spec (ws := (.code yX6_add cX6_add 6 (some .int) :: wd)) B.pre w (List.mem_cons_of_mem _ h), B.notSynchronized, hK, va_Pnil, fun k q h => by simp at h⟩
  have hl := lv_entry ([.ref (Q 0 0), .int a1, .int a2, .int a3, .int a4, .int a5]) (n := 6) (Nat.le_of_ble_eq_true rfl)
  rw [lg_entry_eq]
  generalize (lg_sl ([.ref (Q 0 0), .int a1, .int a2, .int a3, .int a4, .int a5]) ++ List.replicate (6 - (lg_sl ([.ref (Q 0 0), .int a1, .int a2, .int a3, .int a4, .int a5])).length) Slot.unset).toArray = ls at hl ⊢
  have hl : lv_has ls 6 [(0, .ref (Q 0 0)), (1, .int a1), (2, .int a2), (3, .int a3), (4, .int a4), (5, .int a5)] := hl
  exact b_X6_add_0 (W9 := ((wDesk cA Q zD))) sa Q   C0 ⟨htr, hxo, hout⟩ zD a1 a2 a3 a4 a5 s.heap [] ls hP (adr.self hD0) va_S.rf hl hf
theorem cw_X6_add {R : Room} {s : State} {args : Array Value} {own : String} {index : Nat} (ht : ∀ w ∈ wd, w.before args s = true) (hlink : Cond.methodLink own index yX6_add ∈ wd) (hR : rm_X6_add.frames + 1 ≤ R.frames ∧ 8 + (6 + 11) + rm_X6_add.locals ≤ R.locals) : CallW R s args own RX6 index yX6_add cX6_add 6 (some .int) (.code yX6_add cX6_add 6 (some .int) :: wd) rm_X6_add 1 6 5 := cwV9x (mc := 1) (ms := 6) 5 ht wi_536 wi_534 wi_535 wi_55 hlink (by decide +kernel) rfl rfl hR
def rm_X6_times : Room := { frames := 6, cells := 1, slots := 6, locals := 176 }
def f_X6_times (zD : DeskS) (a1 : Int32) (a2 : Int32) (a3 : Int32) : Option (Int32 × Int32 × DeskS) := (f_X6_isSlot a1).bind fun r_1 => if r_1 = 0 then some ((1 : Int32), (0 : Int32), zD) else (f_X6_isSlot a2).bind fun r_3 => if r_3 = 0 then some ((1 : Int32), (0 : Int32), zD) else (f_X6_isSlot a3).bind fun r_5 => if ¬ r_5 = 0 then if inb a2 8 = true then (f_X4_isSmall 40 (gD_slots zD a2.toNatClampNeg)).bind fun r_8 => if r_8 = 0 then some ((2 : Int32), (0 : Int32), zD) else if inb a3 8 = true then (f_X4_isSmall 40 (gD_slots zD a3.toNatClampNeg)).bind fun r_11 => if ¬ r_11 = 0 then if inb a2 8 = true then (f_X4_size 40 (gD_slots zD a2.toNatClampNeg)).bind fun r_14 => if inb a3 8 = true then (f_X4_size 40 (gD_slots zD a3.toNatClampNeg)).bind fun r_16 => if (r_14 * r_16) ≤ (100 : Int32) then if inb a2 8 = true then if inb a3 8 = true then (f_X2_canBeTold 40 40 (gD_slots zD a2.toNatClampNeg) (gD_slots zD a3.toNatClampNeg)).bind fun r_20 => if ¬ r_20 = 0 then (f_X4_clear 200 (gD_work zD)).bind fun r_22 => if inb a2 8 = true then if inb a3 8 = true then (f_X2_putProduct 200 40 40 (gD_slots (uD_work zD r_22) a2.toNatClampNeg) (gD_slots (uD_work zD r_22) a3.toNatClampNeg) (gD_work (uD_work zD r_22))).bind fun r_25 => (f_X6_settle (uD_work (uD_work zD r_22) r_25) a1).bind fun r_26 => some ((0 : Int32), r_26.1, r_26.2) else none else none else some ((0 : Int32), (-5 : Int32), zD) else none else none else some ((0 : Int32), (-4 : Int32), zD) else none else none else some ((2 : Int32), (0 : Int32), zD) else none else none else some ((1 : Int32), (0 : Int32), zD)
set_option maxHeartbeats 4000000 in
set_option maxRecDepth 100000 in
theorem b_X6_times_0 {p : Program} {l : Launch} {e : Env} {s : State} {m : MethodId} {args : Array Value} {below : List Frame} {meth : Method} {c : Code} {G : va_G} {cA : Nat → ClassId} {W9 : va_W} (sa : Nat → Nat) (Q : Nat → Nat → Nat) (C0 : Amb p s m args meth c cX6_times RX6 4 (some .int) G cA (adr W9) []) (X0 : l.stackTraces = false ∧ xOK (adr W9) sa s ∧ ∀ x ∈ c.exceptionTable.toList, False) {res : Int32 × Int32 × DeskS} : ∀ (zD : DeskS) (a1 : Int32) (a2 : Int32) (a3 : Int32) (H : Heap) (locs : List Loc) (ls : Array Slot), va_P G vwCl ((wDesk cA Q zD)) H → va_D (adr W9) ((wDesk cA Q zD)) → va_S (adr W9) s.heap H locs → lv_has ls 4 [(0, .ref (Q 0 0)), (1, .int a1), (2, .int a2), (3, .int a3)] → f_X6_times zD a1 a2 a3 = some res → W p l e rm_X6_times s m args below meth c H locs 0 0 (vx_MQ below (qXi G W9 ((wDesk cA Q res.2.2)) res.1 res.2.1) (qXx G W9 ((wDesk cA Q res.2.2)) res.1) args s 1 6 (adr W9)) (F0 m 0 ls []) := by
  obtain ⟨hx, hb, hr, hml, hown, hts, hlocks, hK, hR, hRA⟩ := id C0
  obtain ⟨htr, hxo, hout⟩ := id X0
  intro zD a1 a2 a3 H locs ls hP hD hS hl hf
  unfold f_X6_times at hf
  refine lv_iload_n hx hb dX6_times_0 rfl (lv_at hl 1 rfl) ?_
  obtain ⟨r_1, hr_1, hf⟩ := obd hf
  refine cRiS (As := [.int a1]) (rest := []) ⟨hx, hb, hml, hown, hts⟩ (m_X6_isSlot l G cA a1 r_1 hr_1) (cw_X6_isSlot hts wi_308 ⟨Nat.le_of_ble_eq_true rfl, Nat.le_of_ble_eq_true rfl⟩) hK va_Pnil rfl hl.1 rfl (Nat.le_of_ble_eq_true rfl) dX6_times_1 ⟨Nat.zero_le _, Nat.zero_le _⟩ ?_
  refine lv_if_eq (tgt := 21) hx hb dX6_times_4 (by decide) (fun c_2 => ?_) (fun c_2 => ?_)
  · rw [if_pos (c_2)] at hf
    cases hf
    exact k_IAE hx hb htr hown hts hxo hS (hl.1.trans hml.symm) 75 "no such slot" (by decide) dX6_times_21 dX6_times_24 dX6_times_25 dX6_times_27 dX6_times_30 hout (Nat.le_of_ble_eq_true rfl) (Nat.le_of_ble_eq_true rfl) (Nat.le_of_ble_eq_true rfl) (Nat.le_of_ble_eq_true rfl) hlocks hP
  · rw [if_neg (c_2)] at hf
    refine lv_iload_n hx hb dX6_times_7 rfl (lv_at hl 2 rfl) ?_
    obtain ⟨r_3, hr_3, hf⟩ := obd hf
    refine cRiS (As := [.int a2]) (rest := []) ⟨hx, hb, hml, hown, hts⟩ (m_X6_isSlot l G cA a2 r_3 hr_3) (cw_X6_isSlot hts wi_308 ⟨Nat.le_of_ble_eq_true rfl, Nat.le_of_ble_eq_true rfl⟩) hK va_Pnil rfl hl.1 rfl (Nat.le_of_ble_eq_true rfl) dX6_times_8 ⟨Nat.zero_le _, Nat.zero_le _⟩ ?_
    refine lv_if_eq (tgt := 21) hx hb dX6_times_11 (by decide) (fun c_4 => ?_) (fun c_4 => ?_)
    · rw [if_pos (c_4)] at hf
      cases hf
      exact k_IAE hx hb htr hown hts hxo hS (hl.1.trans hml.symm) 75 "no such slot" (by decide) dX6_times_21 dX6_times_24 dX6_times_25 dX6_times_27 dX6_times_30 hout (Nat.le_of_ble_eq_true rfl) (Nat.le_of_ble_eq_true rfl) (Nat.le_of_ble_eq_true rfl) (Nat.le_of_ble_eq_true rfl) hlocks hP
    · rw [if_neg (c_4)] at hf
      refine lv_iload_n hx hb dX6_times_14 rfl (lv_at hl 3 rfl) ?_
      obtain ⟨r_5, hr_5, hf⟩ := obd hf
      refine cRiS (As := [.int a3]) (rest := []) ⟨hx, hb, hml, hown, hts⟩ (m_X6_isSlot l G cA a3 r_5 hr_5) (cw_X6_isSlot hts wi_308 ⟨Nat.le_of_ble_eq_true rfl, Nat.le_of_ble_eq_true rfl⟩) hK va_Pnil rfl hl.1 rfl (Nat.le_of_ble_eq_true rfl) dX6_times_15 ⟨Nat.zero_le _, Nat.zero_le _⟩ ?_
      refine lv_if_ne (tgt := 31) hx hb dX6_times_18 (by decide) (fun c_6 => ?_) (fun c_6 => ?_)
      · rw [if_pos (c_6)] at hf
        refine lv_aload_n hx hb dX6_times_31 rfl (lv_at hl 0 rfl) ?_
        refine va_get (D := G) (ci := 4) (v := .ref (Q 0 1)) (C := RX6) (T := TX6) (N := 6) hx hb hts fin_X6 hown hK.1 hP 0 rfl rfl 0 (by decide) (hts _ wi_171) (fun _ h9 => h9) rfl dX6_times_32 ?_
        refine lv_iload_n hx hb dX6_times_35 rfl (lv_at hl 2 rfl) ?_
        obtain ⟨hi_7, hf⟩ := oif hf
        refine va_aldq hx hb hK.1 hP 1 3 rfl rfl (inb_in hi_7) dX6_times_36 ?_
        refine W.eq (g2 := F0 m 37 ls [.ref (Q (6 + a2.toNatClampNeg) 0)]) rfl ?_
        obtain ⟨r_8, hr_8, hf⟩ := obd hf
        refine cRiV (As := []) (rest := []) ⟨hx, hb, hml, hown, hts⟩ (m_X4_isSmall l G cA (Q (6 + a2.toNatClampNeg)) 40 (gD_slots zD a2.toNatClampNeg) r_8 hr_8) (cw_X4_isSmall hts wi_538 ⟨Nat.le_of_ble_eq_true rfl, Nat.le_of_ble_eq_true rfl⟩) hK (pk hP (sIs a2.toNatClampNeg) (slotC cA Q zD (inb8 hi_7))) (slotRecv hK.1 hP (inb8 hi_7)) rfl hl.1 rfl (Nat.le_of_ble_eq_true rfl) dX6_times_37 ⟨Nat.zero_le _, Nat.zero_le _⟩ ?_
        refine lv_if_eq (tgt := 55) hx hb dX6_times_40 (by decide) (fun c_9 => ?_) (fun c_9 => ?_)
        · rw [if_pos (c_9)] at hf
          cases hf
          exact k_ISE hx hb htr hown hts hxo hS (hl.1.trans hml.symm) 109 "a factor is not small" (by decide) dX6_times_55 dX6_times_58 dX6_times_59 dX6_times_61 dX6_times_64 hout (Nat.le_of_ble_eq_true rfl) (Nat.le_of_ble_eq_true rfl) (Nat.le_of_ble_eq_true rfl) (Nat.le_of_ble_eq_true rfl) hlocks hP
        · rw [if_neg (c_9)] at hf
          refine lv_aload_n hx hb dX6_times_43 rfl (lv_at hl 0 rfl) ?_
          refine va_get (D := G) (ci := 4) (v := .ref (Q 0 1)) (C := RX6) (T := TX6) (N := 6) hx hb hts fin_X6 hown hK.1 hP 0 rfl rfl 0 (by decide) (hts _ wi_171) (fun _ h9 => h9) rfl dX6_times_44 ?_
          refine lv_iload_n hx hb dX6_times_47 rfl (lv_at hl 3 rfl) ?_
          obtain ⟨hi_10, hf⟩ := oif hf
          refine va_aldq hx hb hK.1 hP 1 3 rfl rfl (inb_in hi_10) dX6_times_48 ?_
          refine W.eq (g2 := F0 m 49 ls [.ref (Q (6 + a3.toNatClampNeg) 0)]) rfl ?_
          obtain ⟨r_11, hr_11, hf⟩ := obd hf
          refine cRiV (As := []) (rest := []) ⟨hx, hb, hml, hown, hts⟩ (m_X4_isSmall l G cA (Q (6 + a3.toNatClampNeg)) 40 (gD_slots zD a3.toNatClampNeg) r_11 hr_11) (cw_X4_isSmall hts wi_538 ⟨Nat.le_of_ble_eq_true rfl, Nat.le_of_ble_eq_true rfl⟩) hK (pk hP (sIs a3.toNatClampNeg) (slotC cA Q zD (inb8 hi_10))) (slotRecv hK.1 hP (inb8 hi_10)) rfl hl.1 rfl (Nat.le_of_ble_eq_true rfl) dX6_times_49 ⟨Nat.zero_le _, Nat.zero_le _⟩ ?_
          refine lv_if_ne (tgt := 65) hx hb dX6_times_52 (by decide) (fun c_12 => ?_) (fun c_12 => ?_)
          · rw [if_pos (c_12)] at hf
            refine lv_aload_n hx hb dX6_times_65 rfl (lv_at hl 0 rfl) ?_
            refine va_get (D := G) (ci := 4) (v := .ref (Q 0 1)) (C := RX6) (T := TX6) (N := 6) hx hb hts fin_X6 hown hK.1 hP 0 rfl rfl 0 (by decide) (hts _ wi_171) (fun _ h9 => h9) rfl dX6_times_66 ?_
            refine lv_iload_n hx hb dX6_times_69 rfl (lv_at hl 2 rfl) ?_
            obtain ⟨hi_13, hf⟩ := oif hf
            refine va_aldq hx hb hK.1 hP 1 3 rfl rfl (inb_in hi_13) dX6_times_70 ?_
            refine W.eq (g2 := F0 m 71 ls [.ref (Q (6 + a2.toNatClampNeg) 0)]) rfl ?_
            obtain ⟨r_14, hr_14, hf⟩ := obd hf
            refine cRiV (As := []) (rest := []) ⟨hx, hb, hml, hown, hts⟩ (m_X4_size l G cA (Q (6 + a2.toNatClampNeg)) 40 (gD_slots zD a2.toNatClampNeg) r_14 hr_14) (cw_X4_size hts wi_460 ⟨Nat.le_of_ble_eq_true rfl, Nat.le_of_ble_eq_true rfl⟩) hK (pk hP (sIs a2.toNatClampNeg) (slotC cA Q zD (inb8 hi_13))) (slotRecv hK.1 hP (inb8 hi_13)) rfl hl.1 rfl (Nat.le_of_ble_eq_true rfl) dX6_times_71 ⟨Nat.zero_le _, Nat.zero_le _⟩ ?_
            refine lv_aload_n hx hb dX6_times_74 rfl (lv_at hl 0 rfl) ?_
            refine va_get (D := G) (ci := 4) (v := .ref (Q 0 1)) (C := RX6) (T := TX6) (N := 6) hx hb hts fin_X6 hown hK.1 hP 0 rfl rfl 0 (by decide) (hts _ wi_171) (fun _ h9 => h9) rfl dX6_times_75 ?_
            refine lv_iload_n hx hb dX6_times_78 rfl (lv_at hl 3 rfl) ?_
            obtain ⟨hi_15, hf⟩ := oif hf
            refine va_aldq hx hb hK.1 hP 1 3 rfl rfl (inb_in hi_15) dX6_times_79 ?_
            refine W.eq (g2 := F0 m 80 ls [.ref (Q (6 + a3.toNatClampNeg) 0), .int r_14]) rfl ?_
            obtain ⟨r_16, hr_16, hf⟩ := obd hf
            refine cRiV (As := []) (rest := [.int r_14]) ⟨hx, hb, hml, hown, hts⟩ (m_X4_size l G cA (Q (6 + a3.toNatClampNeg)) 40 (gD_slots zD a3.toNatClampNeg) r_16 hr_16) (cw_X4_size hts wi_460 ⟨Nat.le_of_ble_eq_true rfl, Nat.le_of_ble_eq_true rfl⟩) hK (pk hP (sIs a3.toNatClampNeg) (slotC cA Q zD (inb8 hi_15))) (slotRecv hK.1 hP (inb8 hi_15)) rfl hl.1 rfl (Nat.le_of_ble_eq_true rfl) dX6_times_80 ⟨Nat.zero_le _, Nat.zero_le _⟩ ?_
            refine lv_imul hx hb dX6_times_83 ?_
            refine lv_bipush (v := (100 : Int32)) hx hb dX6_times_84 (by decide) ?_
            refine lv_icmp_le (tgt := 92) hx hb dX6_times_86 (by decide) (fun c_17 => ?_) (fun c_17 => ?_)
            · rw [if_pos (c_17)] at hf
              refine lv_aload_n hx hb dX6_times_92 rfl (lv_at hl 0 rfl) ?_
              refine va_get (D := G) (ci := 4) (v := .ref (Q 0 1)) (C := RX6) (T := TX6) (N := 6) hx hb hts fin_X6 hown hK.1 hP 0 rfl rfl 0 (by decide) (hts _ wi_171) (fun _ h9 => h9) rfl dX6_times_93 ?_
              refine lv_iload_n hx hb dX6_times_96 rfl (lv_at hl 2 rfl) ?_
              obtain ⟨hi_18, hf⟩ := oif hf
              refine va_aldq hx hb hK.1 hP 1 3 rfl rfl (inb_in hi_18) dX6_times_97 ?_
              refine W.eq (g2 := F0 m 98 ls [.ref (Q (6 + a2.toNatClampNeg) 0)]) rfl ?_
              refine lv_aload_n hx hb dX6_times_98 rfl (lv_at hl 0 rfl) ?_
              refine va_get (D := G) (ci := 4) (v := .ref (Q 0 1)) (C := RX6) (T := TX6) (N := 6) hx hb hts fin_X6 hown hK.1 hP 0 rfl rfl 0 (by decide) (hts _ wi_171) (fun _ h9 => h9) rfl dX6_times_99 ?_
              refine lv_iload_n hx hb dX6_times_102 rfl (lv_at hl 3 rfl) ?_
              obtain ⟨hi_19, hf⟩ := oif hf
              refine va_aldq hx hb hK.1 hP 1 3 rfl rfl (inb_in hi_19) dX6_times_103 ?_
              refine W.eq (g2 := F0 m 104 ls [.ref (Q (6 + a3.toNatClampNeg) 0), .ref (Q (6 + a2.toNatClampNeg) 0)]) rfl ?_
              obtain ⟨r_20, hr_20, hf⟩ := obd hf
              refine cRiS (As := [.ref (Q (6 + a2.toNatClampNeg) 0), .ref (Q (6 + a3.toNatClampNeg) 0)]) (rest := []) ⟨hx, hb, hml, hown, hts⟩ (m_X2_canBeTold l G cA (Q (6 + a2.toNatClampNeg)) 40 (Q (6 + a3.toNatClampNeg)) 40 (gD_slots zD a2.toNatClampNeg) (gD_slots zD a3.toNatClampNeg) r_20 hr_20) (cw_X2_canBeTold hts wi_558 ⟨Nat.le_of_ble_eq_true rfl, Nat.le_of_ble_eq_true rfl⟩) hK (va_P.app (pk hP (sIs a2.toNatClampNeg) (slotC cA Q zD (inb8 hi_18))) (pk hP (sIs a3.toNatClampNeg) (slotC cA Q zD (inb8 hi_19)))) rfl hl.1 rfl (Nat.le_of_ble_eq_true rfl) dX6_times_104 ⟨Nat.zero_le _, Nat.zero_le _⟩ ?_
              refine lv_if_ne (tgt := 113) hx hb dX6_times_107 (by decide) (fun c_21 => ?_) (fun c_21 => ?_)
              · rw [if_pos (c_21)] at hf
                refine lv_aload_n hx hb dX6_times_113 rfl (lv_at hl 0 rfl) ?_
                refine va_get (D := G) (ci := 4) (v := .ref (Q 1 0)) (C := RX6) (T := TX6) (N := 6) hx hb hts fin_X6 hown hK.1 hP 0 rfl rfl 1 (by decide) (hts _ wi_172) (fun _ h9 => h9) rfl dX6_times_114 ?_
                obtain ⟨r_22, hr_22, hf⟩ := obd hf
                refine cWvV (As := []) (rest := []) (W1 := ((wDesk cA Q (uD_work zD r_22)))) ⟨hx, hb, hml, hown, hts⟩ (m_X4_clear l G cA (Q 1) 200 (gD_work zD) r_22 hr_22) (cw_X4_clear hts wi_545 ⟨Nat.le_of_ble_eq_true rfl, Nat.le_of_ble_eq_true rfl⟩) hK hP hD hS [2, 3, 4, 5] [0, 1, 47, 48, 49, 50, 6, 7, 8, 9, 10, 11, 12, 13, 14, 15, 16, 17, 18, 19, 20, 21, 22, 23, 24, 25, 26, 27, 28, 29, 30, 31, 32, 33, 34, 35, 36, 37, 38, 39, 40, 41, 42, 43, 44, 45, 46] (subC_work cA Q zD) (by decide) (subB_work cA Q zD r_22) (by decide) (deskAdr cA Q _ _) va_Pnil dj_nil (va_recv hK.1 hP (ci := 2) (q0 := 2) rfl rfl) rfl hl.1 rfl (Nat.le_of_ble_eq_true rfl) dX6_times_117 ⟨Nat.zero_le _, Nat.zero_le _⟩ (fun H locs hP hD hS => ?_)
                refine lv_aload_n hx hb dX6_times_120 rfl (lv_at hl 0 rfl) ?_
                refine va_get (D := G) (ci := 4) (v := .ref (Q 1 0)) (C := RX6) (T := TX6) (N := 6) hx hb hts fin_X6 hown hK.1 hP 0 rfl rfl 1 (by decide) (hts _ wi_172) (fun _ h9 => h9) rfl dX6_times_121 ?_
                refine lv_aload_n hx hb dX6_times_124 rfl (lv_at hl 0 rfl) ?_
                refine va_get (D := G) (ci := 4) (v := .ref (Q 0 1)) (C := RX6) (T := TX6) (N := 6) hx hb hts fin_X6 hown hK.1 hP 0 rfl rfl 0 (by decide) (hts _ wi_171) (fun _ h9 => h9) rfl dX6_times_125 ?_
                refine lv_iload_n hx hb dX6_times_128 rfl (lv_at hl 2 rfl) ?_
                obtain ⟨hi_23, hf⟩ := oif hf
                refine va_aldq hx hb hK.1 hP 1 3 rfl rfl (inb_in hi_23) dX6_times_129 ?_
                refine W.eq (g2 := F0 m 130 ls [.ref (Q (6 + a2.toNatClampNeg) 0), .ref (Q 1 0)]) rfl ?_
                refine lv_aload_n hx hb dX6_times_130 rfl (lv_at hl 0 rfl) ?_
                refine va_get (D := G) (ci := 4) (v := .ref (Q 0 1)) (C := RX6) (T := TX6) (N := 6) hx hb hts fin_X6 hown hK.1 hP 0 rfl rfl 0 (by decide) (hts _ wi_171) (fun _ h9 => h9) rfl dX6_times_131 ?_
                refine lv_iload_n hx hb dX6_times_134 rfl (lv_at hl 3 rfl) ?_
                obtain ⟨hi_24, hf⟩ := oif hf
                refine va_aldq hx hb hK.1 hP 1 3 rfl rfl (inb_in hi_24) dX6_times_135 ?_
                refine W.eq (g2 := F0 m 136 ls [.ref (Q (6 + a3.toNatClampNeg) 0), .ref (Q (6 + a2.toNatClampNeg) 0), .ref (Q 1 0)]) rfl ?_
                obtain ⟨r_25, hr_25, hf⟩ := obd hf
                refine cWvS (As := [.ref (Q 1 0), .ref (Q (6 + a2.toNatClampNeg) 0), .ref (Q (6 + a3.toNatClampNeg) 0)]) (rest := []) (W1 := ((wDesk cA Q (uD_work (uD_work zD r_22) r_25)))) ⟨hx, hb, hml, hown, hts⟩ (m_X2_putProduct l G cA (Q 1) 200 (Q (6 + a2.toNatClampNeg)) 40 (Q (6 + a3.toNatClampNeg)) 40 (gD_slots (uD_work zD r_22) a2.toNatClampNeg) (gD_slots (uD_work zD r_22) a3.toNatClampNeg) (gD_work (uD_work zD r_22)) r_25 hr_25) (cw_X2_putProduct hts wi_569 ⟨Nat.le_of_ble_eq_true rfl, Nat.le_of_ble_eq_true rfl⟩) hK hP hD hS [2, 3, 4, 5] [0, 1, 47, 48, 49, 50, 6, 7, 8, 9, 10, 11, 12, 13, 14, 15, 16, 17, 18, 19, 20, 21, 22, 23, 24, 25, 26, 27, 28, 29, 30, 31, 32, 33, 34, 35, 36, 37, 38, 39, 40, 41, 42, 43, 44, 45, 46] (subC_work cA Q (uD_work zD r_22)) (by decide) (subB_work cA Q (uD_work zD r_22) r_25) (by decide) (deskAdr cA Q _ _) (va_P.app (pk hP (sIs a2.toNatClampNeg) (slotC cA Q (uD_work zD r_22) (inb8 hi_23))) (pk hP (sIs a3.toNatClampNeg) (slotC cA Q (uD_work zD r_22) (inb8 hi_24)))) (dj_app (dj_own (isC := [2, 3, 4, 5]) hD (sIs a2.toNatClampNeg) (subC_work cA Q (uD_work zD r_22)) (slotC cA Q (uD_work zD r_22) (inb8 hi_23)) (slotOut _ (by decide))) (dj_own (isC := [2, 3, 4, 5]) hD (sIs a3.toNatClampNeg) (subC_work cA Q (uD_work zD r_22)) (slotC cA Q (uD_work zD r_22) (inb8 hi_24)) (slotOut _ (by decide)))) rfl hl.1 rfl (Nat.le_of_ble_eq_true rfl) dX6_times_136 ⟨Nat.zero_le _, Nat.zero_le _⟩ (fun H locs hP hD hS => ?_)
                refine lv_aload_n hx hb dX6_times_139 rfl (lv_at hl 0 rfl) ?_
                refine lv_iload_n hx hb dX6_times_140 rfl (lv_at hl 1 rfl) ?_
                obtain ⟨r_26, hr_26, hf⟩ := obd hf
                refine cWiV (As := [.int a1]) (rest := []) (W1 := ((wDesk cA Q r_26.2))) ⟨hx, hb, hml, hown, hts⟩ (m_X6_settle l G cA Q (uD_work (uD_work zD r_22) r_25) a1 r_26 hr_26) (cw_X6_settle hts wi_448 ⟨Nat.le_of_ble_eq_true rfl, Nat.le_of_ble_eq_true rfl⟩) hK hP hD hS [0, 1, 2, 3, 4, 5, 6, 7, 8, 9, 10, 11, 12, 13, 14, 15, 16, 17, 18, 19, 20, 21, 22, 23, 24, 25, 26, 27, 28, 29, 30, 31, 32, 33, 34, 35, 36, 37, 38, 39, 40, 41, 42, 43, 44, 45, 46] [47, 48, 49, 50, 51, 52, 53, 54, 55, 56, 57, 58, 59, 60, 61, 62, 63, 64, 65, 66, 67, 68, 69, 70, 71, 72, 73, 74, 75, 76, 77, 78, 79, 80, 81, 82, 83, 84, 85, 86, 87, 88, 89, 90, 91, 92, 93] (subC_all cA Q (uD_work (uD_work zD r_22) r_25)) (by decide) (subB_all cA Q (uD_work (uD_work zD r_22) r_25) r_26.2) (by decide) (deskAdr cA Q _ _) va_Pnil dj_nil (va_recv hK.1 hP (ci := 4) (q0 := 0) rfl rfl) rfl hl.1 rfl (Nat.le_of_ble_eq_true rfl) dX6_times_141 ⟨Nat.zero_le _, Nat.zero_le _⟩ (fun H locs hP hD hS => ?_)
                cases hf
                refine W.widen (k := 1) (n := 6) (Nat.zero_le _) (Nat.zero_le _) ?_
                exact vx_ret (W.iret hx hb hr (fun t ht hW => ⟨⟨_, (), rfl, ⟨rfl, rfl⟩, toT ht hP⟩, hS.F ht⟩) hS.2.2 dX6_times_144 hlocks)
              · rw [if_neg (not_not_intro c_21)] at hf
                refine lv_bipush (v := (-5 : Int32)) hx hb dX6_times_110 (by decide) ?_
                cases hf
                refine W.widen (k := 1) (n := 6) (Nat.zero_le _) (Nat.zero_le _) ?_
                exact vx_ret (W.iret hx hb hr (fun t ht hW => ⟨⟨_, (), rfl, ⟨rfl, rfl⟩, toT ht hP⟩, hS.F ht⟩) hS.2.2 dX6_times_112 hlocks)
            · rw [if_neg (c_17)] at hf
              refine lv_bipush (v := (-4 : Int32)) hx hb dX6_times_89 (by decide) ?_
              cases hf
              refine W.widen (k := 1) (n := 6) (Nat.zero_le _) (Nat.zero_le _) ?_
              exact vx_ret (W.iret hx hb hr (fun t ht hW => ⟨⟨_, (), rfl, ⟨rfl, rfl⟩, toT ht hP⟩, hS.F ht⟩) hS.2.2 dX6_times_91 hlocks)
          · rw [if_neg (not_not_intro c_12)] at hf
            cases hf
            exact k_ISE hx hb htr hown hts hxo hS (hl.1.trans hml.symm) 109 "a factor is not small" (by decide) dX6_times_55 dX6_times_58 dX6_times_59 dX6_times_61 dX6_times_64 hout (Nat.le_of_ble_eq_true rfl) (Nat.le_of_ble_eq_true rfl) (Nat.le_of_ble_eq_true rfl) (Nat.le_of_ble_eq_true rfl) hlocks hP
      · rw [if_neg (not_not_intro c_6)] at hf
        cases hf
        exact k_IAE hx hb htr hown hts hxo hS (hl.1.trans hml.symm) 75 "no such slot" (by decide) dX6_times_21 dX6_times_24 dX6_times_25 dX6_times_27 dX6_times_30 hout (Nat.le_of_ble_eq_true rfl) (Nat.le_of_ble_eq_true rfl) (Nat.le_of_ble_eq_true rfl) (Nat.le_of_ble_eq_true rfl) hlocks hP

set_option maxRecDepth 100000 in
theorem m_X6_times (l : Launch) (G : va_G) (cA : Nat → ClassId) (htr : l.stackTraces = false) (sa : Nat → Nat) (Q : Nat → Nat → Nat) (zD : DeskS) (a1 : Int32) (a2 : Int32) (a3 : Int32) (res : Int32 × Int32 × DeskS) (hf : f_X6_times zD a1 a2 a3 = some res) : MXi l yX6_times (.code yX6_times cX6_times 4 (some .int) :: wd) rm_X6_times G cA sa [.ref (Q 0 0), .int a1, .int a2, .int a3] ((wDesk cA Q zD)) ((wDesk cA Q res.2.2)) res.1 res.2.1 := by
  refine vx_ofW (cc := cX6_times) (maxL := 4) (ret := (some .int)) (by decide) rfl ?_
  intro p e s m args below meth c s₁ B hml hout hv
  obtain ⟨rfl, hK, hP, hD0, hxo⟩ := hv
  have C0 : Amb p s m ([.ref (Q 0 0), .int a1, .int a2, .int a3] : List Value).toArray meth c cX6_times RX6 4 (some .int) G cA (adr ((wDesk cA Q zD))) [] := ⟨B.exec, B.bytes, B.returns, hml, findClass_of_methodNamed B.named, fun w h => atoms_spec (ws := (.code yX6_times cX6_times 4 (some .int) :: wd)) B.pre w (List.mem_cons_of_mem _ h), B.notSynchronized, hK, va_Pnil, fun k q h => by simp at h⟩
  have hl := lv_entry ([.ref (Q 0 0), .int a1, .int a2, .int a3]) (n := 4) (Nat.le_of_ble_eq_true rfl)
  rw [lg_entry_eq]
  generalize (lg_sl ([.ref (Q 0 0), .int a1, .int a2, .int a3]) ++ List.replicate (4 - (lg_sl ([.ref (Q 0 0), .int a1, .int a2, .int a3])).length) Slot.unset).toArray = ls at hl ⊢
  have hl : lv_has ls 4 [(0, .ref (Q 0 0)), (1, .int a1), (2, .int a2), (3, .int a3)] := hl
  exact b_X6_times_0 (W9 := ((wDesk cA Q zD))) sa Q   C0 ⟨htr, hxo, hout⟩ zD a1 a2 a3 s.heap [] ls hP (adr.self hD0) va_S.rf hl hf
theorem cw_X6_times {R : Room} {s : State} {args : Array Value} {own : String} {index : Nat} (ht : ∀ w ∈ wd, w.before args s = true) (hlink : Cond.methodLink own index yX6_times ∈ wd) (hR : rm_X6_times.frames + 1 ≤ R.frames ∧ 8 + (4 + 11) + rm_X6_times.locals ≤ R.locals) : CallW R s args own RX6 index yX6_times cX6_times 4 (some .int) (.code yX6_times cX6_times 4 (some .int) :: wd) rm_X6_times 1 6 3 := cwV9x (mc := 1) (ms := 6) 3 ht wi_556 wi_554 wi_555 wi_55 hlink (by decide +kernel) rfl rfl hR
def rm_X6_derive : Room := { frames := 6, cells := 1, slots := 6, locals := 147 }
def f_X6_derive (zD : DeskS) (a1 : Int32) (a2 : Int32) : Option (Int32 × Int32 × DeskS) := (f_X6_isSlot a1).bind fun r_1 => if r_1 = 0 then some ((1 : Int32), (0 : Int32), zD) else (f_X6_isSlot a2).bind fun r_3 => if ¬ r_3 = 0 then (f_X4_clear 200 (gD_work zD)).bind fun r_5 => if inb a2 8 = true then (f_X0_putDerivative 200 40 (gD_slots (uD_work zD r_5) a2.toNatClampNeg) (gD_work (uD_work zD r_5))).bind fun r_7 => (f_X6_settle (uD_work (uD_work zD r_5) r_7) a1).bind fun r_8 => some ((0 : Int32), r_8.1, r_8.2) else none else some ((1 : Int32), (0 : Int32), zD)
set_option maxHeartbeats 4000000 in
set_option maxRecDepth 100000 in
theorem b_X6_derive_0 {p : Program} {l : Launch} {e : Env} {s : State} {m : MethodId} {args : Array Value} {below : List Frame} {meth : Method} {c : Code} {G : va_G} {cA : Nat → ClassId} {W9 : va_W} (sa : Nat → Nat) (Q : Nat → Nat → Nat) (C0 : Amb p s m args meth c cX6_derive RX6 3 (some .int) G cA (adr W9) []) (X0 : l.stackTraces = false ∧ xOK (adr W9) sa s ∧ ∀ x ∈ c.exceptionTable.toList, False) {res : Int32 × Int32 × DeskS} : ∀ (zD : DeskS) (a1 : Int32) (a2 : Int32) (H : Heap) (locs : List Loc) (ls : Array Slot), va_P G vwCl ((wDesk cA Q zD)) H → va_D (adr W9) ((wDesk cA Q zD)) → va_S (adr W9) s.heap H locs → lv_has ls 3 [(0, .ref (Q 0 0)), (1, .int a1), (2, .int a2)] → f_X6_derive zD a1 a2 = some res → W p l e rm_X6_derive s m args below meth c H locs 0 0 (vx_MQ below (qXi G W9 ((wDesk cA Q res.2.2)) res.1 res.2.1) (qXx G W9 ((wDesk cA Q res.2.2)) res.1) args s 1 6 (adr W9)) (F0 m 0 ls []) := by
  obtain ⟨hx, hb, hr, hml, hown, hts, hlocks, hK, hR, hRA⟩ := id C0
  obtain ⟨htr, hxo, hout⟩ := id X0
  intro zD a1 a2 H locs ls hP hD hS hl hf
  unfold f_X6_derive at hf
  refine lv_iload_n hx hb dX6_derive_0 rfl (lv_at hl 1 rfl) ?_
  obtain ⟨r_1, hr_1, hf⟩ := obd hf
  refine cRiS (As := [.int a1]) (rest := []) ⟨hx, hb, hml, hown, hts⟩ (m_X6_isSlot l G cA a1 r_1 hr_1) (cw_X6_isSlot hts wi_308 ⟨Nat.le_of_ble_eq_true rfl, Nat.le_of_ble_eq_true rfl⟩) hK va_Pnil rfl hl.1 rfl (Nat.le_of_ble_eq_true rfl) dX6_derive_1 ⟨Nat.zero_le _, Nat.zero_le _⟩ ?_
  refine lv_if_eq (tgt := 14) hx hb dX6_derive_4 (by decide) (fun c_2 => ?_) (fun c_2 => ?_)
  · rw [if_pos (c_2)] at hf
    cases hf
    exact k_IAE hx hb htr hown hts hxo hS (hl.1.trans hml.symm) 75 "no such slot" (by decide) dX6_derive_14 dX6_derive_17 dX6_derive_18 dX6_derive_20 dX6_derive_23 hout (Nat.le_of_ble_eq_true rfl) (Nat.le_of_ble_eq_true rfl) (Nat.le_of_ble_eq_true rfl) (Nat.le_of_ble_eq_true rfl) hlocks hP
  · rw [if_neg (c_2)] at hf
    refine lv_iload_n hx hb dX6_derive_7 rfl (lv_at hl 2 rfl) ?_
    obtain ⟨r_3, hr_3, hf⟩ := obd hf
    refine cRiS (As := [.int a2]) (rest := []) ⟨hx, hb, hml, hown, hts⟩ (m_X6_isSlot l G cA a2 r_3 hr_3) (cw_X6_isSlot hts wi_308 ⟨Nat.le_of_ble_eq_true rfl, Nat.le_of_ble_eq_true rfl⟩) hK va_Pnil rfl hl.1 rfl (Nat.le_of_ble_eq_true rfl) dX6_derive_8 ⟨Nat.zero_le _, Nat.zero_le _⟩ ?_
    refine lv_if_ne (tgt := 24) hx hb dX6_derive_11 (by decide) (fun c_4 => ?_) (fun c_4 => ?_)
    · rw [if_pos (c_4)] at hf
      refine lv_aload_n hx hb dX6_derive_24 rfl (lv_at hl 0 rfl) ?_
      refine va_get (D := G) (ci := 4) (v := .ref (Q 1 0)) (C := RX6) (T := TX6) (N := 6) hx hb hts fin_X6 hown hK.1 hP 0 rfl rfl 1 (by decide) (hts _ wi_172) (fun _ h9 => h9) rfl dX6_derive_25 ?_
      obtain ⟨r_5, hr_5, hf⟩ := obd hf
      refine cWvV (As := []) (rest := []) (W1 := ((wDesk cA Q (uD_work zD r_5)))) ⟨hx, hb, hml, hown, hts⟩ (m_X4_clear l G cA (Q 1) 200 (gD_work zD) r_5 hr_5) (cw_X4_clear hts wi_545 ⟨Nat.le_of_ble_eq_true rfl, Nat.le_of_ble_eq_true rfl⟩) hK hP hD hS [2, 3, 4, 5] [0, 1, 47, 48, 49, 50, 6, 7, 8, 9, 10, 11, 12, 13, 14, 15, 16, 17, 18, 19, 20, 21, 22, 23, 24, 25, 26, 27, 28, 29, 30, 31, 32, 33, 34, 35, 36, 37, 38, 39, 40, 41, 42, 43, 44, 45, 46] (subC_work cA Q zD) (by decide) (subB_work cA Q zD r_5) (by decide) (deskAdr cA Q _ _) va_Pnil dj_nil (va_recv hK.1 hP (ci := 2) (q0 := 2) rfl rfl) rfl hl.1 rfl (Nat.le_of_ble_eq_true rfl) dX6_derive_28 ⟨Nat.zero_le _, Nat.zero_le _⟩ (fun H locs hP hD hS => ?_)
      refine lv_aload_n hx hb dX6_derive_31 rfl (lv_at hl 0 rfl) ?_
      refine va_get (D := G) (ci := 4) (v := .ref (Q 1 0)) (C := RX6) (T := TX6) (N := 6) hx hb hts fin_X6 hown hK.1 hP 0 rfl rfl 1 (by decide) (hts _ wi_172) (fun _ h9 => h9) rfl dX6_derive_32 ?_
      refine lv_aload_n hx hb dX6_derive_35 rfl (lv_at hl 0 rfl) ?_
      refine va_get (D := G) (ci := 4) (v := .ref (Q 0 1)) (C := RX6) (T := TX6) (N := 6) hx hb hts fin_X6 hown hK.1 hP 0 rfl rfl 0 (by decide) (hts _ wi_171) (fun _ h9 => h9) rfl dX6_derive_36 ?_
      refine lv_iload_n hx hb dX6_derive_39 rfl (lv_at hl 2 rfl) ?_
      obtain ⟨hi_6, hf⟩ := oif hf
      refine va_aldq hx hb hK.1 hP 1 3 rfl rfl (inb_in hi_6) dX6_derive_40 ?_
      refine W.eq (g2 := F0 m 41 ls [.ref (Q (6 + a2.toNatClampNeg) 0), .ref (Q 1 0)]) rfl ?_
      obtain ⟨r_7, hr_7, hf⟩ := obd hf
      refine cWvS (As := [.ref (Q 1 0), .ref (Q (6 + a2.toNatClampNeg) 0)]) (rest := []) (W1 := ((wDesk cA Q (uD_work (uD_work zD r_5) r_7)))) ⟨hx, hb, hml, hown, hts⟩ (m_X0_putDerivative l G cA (Q 1) 200 (Q (6 + a2.toNatClampNeg)) 40 (gD_slots (uD_work zD r_5) a2.toNatClampNeg) (gD_work (uD_work zD r_5)) r_7 hr_7) (cw_X0_putDerivative hts wi_594 ⟨Nat.le_of_ble_eq_true rfl, Nat.le_of_ble_eq_true rfl⟩) hK hP hD hS [2, 3, 4, 5] [0, 1, 47, 48, 49, 50, 6, 7, 8, 9, 10, 11, 12, 13, 14, 15, 16, 17, 18, 19, 20, 21, 22, 23, 24, 25, 26, 27, 28, 29, 30, 31, 32, 33, 34, 35, 36, 37, 38, 39, 40, 41, 42, 43, 44, 45, 46] (subC_work cA Q (uD_work zD r_5)) (by decide) (subB_work cA Q (uD_work zD r_5) r_7) (by decide) (deskAdr cA Q _ _) (pk hP (sIs a2.toNatClampNeg) (slotC cA Q (uD_work zD r_5) (inb8 hi_6))) (dj_own (isC := [2, 3, 4, 5]) hD (sIs a2.toNatClampNeg) (subC_work cA Q (uD_work zD r_5)) (slotC cA Q (uD_work zD r_5) (inb8 hi_6)) (slotOut _ (by decide))) rfl hl.1 rfl (Nat.le_of_ble_eq_true rfl) dX6_derive_41 ⟨Nat.zero_le _, Nat.zero_le _⟩ (fun H locs hP hD hS => ?_)
      refine lv_aload_n hx hb dX6_derive_44 rfl (lv_at hl 0 rfl) ?_
      refine lv_iload_n hx hb dX6_derive_45 rfl (lv_at hl 1 rfl) ?_
      obtain ⟨r_8, hr_8, hf⟩ := obd hf
      refine cWiV (As := [.int a1]) (rest := []) (W1 := ((wDesk cA Q r_8.2))) ⟨hx, hb, hml, hown, hts⟩ (m_X6_settle l G cA Q (uD_work (uD_work zD r_5) r_7) a1 r_8 hr_8) (cw_X6_settle hts wi_448 ⟨Nat.le_of_ble_eq_true rfl, Nat.le_of_ble_eq_true rfl⟩) hK hP hD hS [0, 1, 2, 3, 4, 5, 6, 7, 8, 9, 10, 11, 12, 13, 14, 15, 16, 17, 18, 19, 20, 21, 22, 23, 24, 25, 26, 27, 28, 29, 30, 31, 32, 33, 34, 35, 36, 37, 38, 39, 40, 41, 42, 43, 44, 45, 46] [47, 48, 49, 50, 51, 52, 53, 54, 55, 56, 57, 58, 59, 60, 61, 62, 63, 64, 65, 66, 67, 68, 69, 70, 71, 72, 73, 74, 75, 76, 77, 78, 79, 80, 81, 82, 83, 84, 85, 86, 87, 88, 89, 90, 91, 92, 93] (subC_all cA Q (uD_work (uD_work zD r_5) r_7)) (by decide) (subB_all cA Q (uD_work (uD_work zD r_5) r_7) r_8.2) (by decide) (deskAdr cA Q _ _) va_Pnil dj_nil (va_recv hK.1 hP (ci := 4) (q0 := 0) rfl rfl) rfl hl.1 rfl (Nat.le_of_ble_eq_true rfl) dX6_derive_46 ⟨Nat.zero_le _, Nat.zero_le _⟩ (fun H locs hP hD hS => ?_)
      cases hf
      refine W.widen (k := 1) (n := 6) (Nat.zero_le _) (Nat.zero_le _) ?_
      exact vx_ret (W.iret hx hb hr (fun t ht hW => ⟨⟨_, (), rfl, ⟨rfl, rfl⟩, toT ht hP⟩, hS.F ht⟩) hS.2.2 dX6_derive_49 hlocks)
    · rw [if_neg (not_not_intro c_4)] at hf
      cases hf
      exact k_IAE hx hb htr hown hts hxo hS (hl.1.trans hml.symm) 75 "no such slot" (by decide) dX6_derive_14 dX6_derive_17 dX6_derive_18 dX6_derive_20 dX6_derive_23 hout (Nat.le_of_ble_eq_true rfl) (Nat.le_of_ble_eq_true rfl) (Nat.le_of_ble_eq_true rfl) (Nat.le_of_ble_eq_true rfl) hlocks hP

set_option maxRecDepth 100000 in
theorem m_X6_derive (l : Launch) (G : va_G) (cA : Nat → ClassId) (htr : l.stackTraces = false) (sa : Nat → Nat) (Q : Nat → Nat → Nat) (zD : DeskS) (a1 : Int32) (a2 : Int32) (res : Int32 × Int32 × DeskS) (hf : f_X6_derive zD a1 a2 = some res) : MXi l yX6_derive (.code yX6_derive cX6_derive 3 (some .int) :: wd) rm_X6_derive G cA sa [.ref (Q 0 0), .int a1, .int a2] ((wDesk cA Q zD)) ((wDesk cA Q res.2.2)) res.1 res.2.1 := by
  refine vx_ofW (cc := cX6_derive) (maxL := 3) (ret := (some .int)) (by decide) rfl ?_
  intro p e s m args below meth c s₁ B hml hout hv
  obtain ⟨rfl, hK, hP, hD0, hxo⟩ := hv
  have C0 : Amb p s m ([.ref (Q 0 0), .int a1, .int a2] : List Value).toArray meth c cX6_derive RX6 3 (some .int) G cA (adr ((wDesk cA Q zD))) [] := ⟨B.exec, B.bytes, B.returns, hml, findClass_of_methodNamed B.named, fun w h => atoms_spec (ws := (.code yX6_derive cX6_derive 3 (some .int) :: wd)) B.pre w (List.mem_cons_of_mem _ h), B.notSynchronized, hK, va_Pnil, fun k q h => by simp at h⟩
  have hl := lv_entry ([.ref (Q 0 0), .int a1, .int a2]) (n := 3) (Nat.le_of_ble_eq_true rfl)
  rw [lg_entry_eq]
  generalize (lg_sl ([.ref (Q 0 0), .int a1, .int a2]) ++ List.replicate (3 - (lg_sl ([.ref (Q 0 0), .int a1, .int a2])).length) Slot.unset).toArray = ls at hl ⊢
  have hl : lv_has ls 3 [(0, .ref (Q 0 0)), (1, .int a1), (2, .int a2)] := hl
  exact b_X6_derive_0 (W9 := ((wDesk cA Q zD))) sa Q   C0 ⟨htr, hxo, hout⟩ zD a1 a2 s.heap [] ls hP (adr.self hD0) va_S.rf hl hf
theorem cw_X6_derive {R : Room} {s : State} {args : Array Value} {own : String} {index : Nat} (ht : ∀ w ∈ wd, w.before args s = true) (hlink : Cond.methodLink own index yX6_derive ∈ wd) (hR : rm_X6_derive.frames + 1 ≤ R.frames ∧ 8 + (3 + 11) + rm_X6_derive.locals ≤ R.locals) : CallW R s args own RX6 index yX6_derive cX6_derive 3 (some .int) (.code yX6_derive cX6_derive 3 (some .int) :: wd) rm_X6_derive 1 6 2 := cwV9x (mc := 1) (ms := 6) 2 ht wi_593 wi_591 wi_592 wi_55 hlink (by decide +kernel) rfl rfl hR
def rm_X6_integrate : Room := { frames := 6, cells := 1, slots := 6, locals := 182 }
def f_X6_integrate (zD : DeskS) (a1 : Int32) (a2 : Int32) (a3 : Int32) : Option (Int32 × Int32 × DeskS) := (f_X6_isSlot a1).bind fun r_1 => if r_1 = 0 then some ((1 : Int32), (0 : Int32), zD) else (f_X6_isSlot a2).bind fun r_3 => if r_3 = 0 then some ((1 : Int32), (0 : Int32), zD) else (f_X6_isSlot a3).bind fun r_5 => if ¬ r_5 = 0 then if inb a3 8 = true then (f_X4_isSmall 40 (gD_slots zD a3.toNatClampNeg)).bind fun r_8 => if ¬ r_8 = 0 then (f_X4_clear 200 (gD_work zD)).bind fun r_10 => (f_X4_clear 40 (gD_left (uD_work zD r_10))).bind fun r_11 => if inb a3 8 = true then (f_X0_putIntegral 200 40 40 (gD_slots (uD_left (uD_work zD r_10) r_11) a3.toNatClampNeg) (gD_work (uD_left (uD_work zD r_10) r_11)) (gD_left (uD_left (uD_work zD r_10) r_11))).bind fun r_13 => (f_X4_fits 200 (gD_work (uD_left (uD_work (uD_left (uD_work zD r_10) r_11) r_13.1) r_13.2))).bind fun r_14 => if r_14 = 0 then some ((0 : Int32), (-4 : Int32), (uD_left (uD_work (uD_left (uD_work zD r_10) r_11) r_13.1) r_13.2)) else (f_X4_fits 40 (gD_left (uD_left (uD_work (uD_left (uD_work zD r_10) r_11) r_13.1) r_13.2))).bind fun r_16 => if ¬ r_16 = 0 then if inb a1 8 = true then (f_X4_become 40 200 (gD_work (uD_left (uD_work (uD_left (uD_work zD r_10) r_11) r_13.1) r_13.2)) (gD_slots (uD_left (uD_work (uD_left (uD_work zD r_10) r_11) r_13.1) r_13.2) a1.toNatClampNeg)).bind fun r_19 => if inb a2 8 = true then (f_X4_become 40 40 (gD_left (uD_slot (uD_left (uD_work (uD_left (uD_work zD r_10) r_11) r_13.1) r_13.2) a1.toNatClampNeg r_19)) (gD_slots (uD_slot (uD_left (uD_work (uD_left (uD_work zD r_10) r_11) r_13.1) r_13.2) a1.toNatClampNeg r_19) a2.toNatClampNeg)).bind fun r_21 => (f_X4_size 40 (gD_left (uD_slot (uD_slot (uD_left (uD_work (uD_left (uD_work zD r_10) r_11) r_13.1) r_13.2) a1.toNatClampNeg r_19) a2.toNatClampNeg r_21))).bind fun r_22 => some ((0 : Int32), r_22, (uD_slot (uD_slot (uD_left (uD_work (uD_left (uD_work zD r_10) r_11) r_13.1) r_13.2) a1.toNatClampNeg r_19) a2.toNatClampNeg r_21)) else none else none else some ((0 : Int32), (-4 : Int32), (uD_left (uD_work (uD_left (uD_work zD r_10) r_11) r_13.1) r_13.2)) else none else some ((2 : Int32), (0 : Int32), zD) else none else some ((1 : Int32), (0 : Int32), zD)
set_option maxHeartbeats 4000000 in
set_option maxRecDepth 100000 in
theorem b_X6_integrate_0 {p : Program} {l : Launch} {e : Env} {s : State} {m : MethodId} {args : Array Value} {below : List Frame} {meth : Method} {c : Code} {G : va_G} {cA : Nat → ClassId} {W9 : va_W} (sa : Nat → Nat) (Q : Nat → Nat → Nat) (C0 : Amb p s m args meth c cX6_integrate RX6 4 (some .int) G cA (adr W9) []) (X0 : l.stackTraces = false ∧ xOK (adr W9) sa s ∧ ∀ x ∈ c.exceptionTable.toList, False) {res : Int32 × Int32 × DeskS} : ∀ (zD : DeskS) (a1 : Int32) (a2 : Int32) (a3 : Int32) (H : Heap) (locs : List Loc) (ls : Array Slot), va_P G vwCl ((wDesk cA Q zD)) H → va_D (adr W9) ((wDesk cA Q zD)) → va_S (adr W9) s.heap H locs → lv_has ls 4 [(0, .ref (Q 0 0)), (1, .int a1), (2, .int a2), (3, .int a3)] → f_X6_integrate zD a1 a2 a3 = some res → W p l e rm_X6_integrate s m args below meth c H locs 0 0 (vx_MQ below (qXi G W9 ((wDesk cA Q res.2.2)) res.1 res.2.1) (qXx G W9 ((wDesk cA Q res.2.2)) res.1) args s 1 6 (adr W9)) (F0 m 0 ls []) := by
  obtain ⟨hx, hb, hr, hml, hown, hts, hlocks, hK, hR, hRA⟩ := id C0
  obtain ⟨htr, hxo, hout⟩ := id X0
  intro zD a1 a2 a3 H locs ls hP hD hS hl hf
  unfold f_X6_integrate at hf
  refine lv_iload_n hx hb dX6_integrate_0 rfl (lv_at hl 1 rfl) ?_
  obtain ⟨r_1, hr_1, hf⟩ := obd hf
  refine cRiS (As := [.int a1]) (rest := []) ⟨hx, hb, hml, hown, hts⟩ (m_X6_isSlot l G cA a1 r_1 hr_1) (cw_X6_isSlot hts wi_308 ⟨Nat.le_of_ble_eq_true rfl, Nat.le_of_ble_eq_true rfl⟩) hK va_Pnil rfl hl.1 rfl (Nat.le_of_ble_eq_true rfl) dX6_integrate_1 ⟨Nat.zero_le _, Nat.zero_le _⟩ ?_
  refine lv_if_eq (tgt := 21) hx hb dX6_integrate_4 (by decide) (fun c_2 => ?_) (fun c_2 => ?_)
  · rw [if_pos (c_2)] at hf
    cases hf
    exact k_IAE hx hb htr hown hts hxo hS (hl.1.trans hml.symm) 75 "no such slot" (by decide) dX6_integrate_21 dX6_integrate_24 dX6_integrate_25 dX6_integrate_27 dX6_integrate_30 hout (Nat.le_of_ble_eq_true rfl) (Nat.le_of_ble_eq_true rfl) (Nat.le_of_ble_eq_true rfl) (Nat.le_of_ble_eq_true rfl) hlocks hP
  · rw [if_neg (c_2)] at hf
    refine lv_iload_n hx hb dX6_integrate_7 rfl (lv_at hl 2 rfl) ?_
    obtain ⟨r_3, hr_3, hf⟩ := obd hf
    refine cRiS (As := [.int a2]) (rest := []) ⟨hx, hb, hml, hown, hts⟩ (m_X6_isSlot l G cA a2 r_3 hr_3) (cw_X6_isSlot hts wi_308 ⟨Nat.le_of_ble_eq_true rfl, Nat.le_of_ble_eq_true rfl⟩) hK va_Pnil rfl hl.1 rfl (Nat.le_of_ble_eq_true rfl) dX6_integrate_8 ⟨Nat.zero_le _, Nat.zero_le _⟩ ?_
    refine lv_if_eq (tgt := 21) hx hb dX6_integrate_11 (by decide) (fun c_4 => ?_) (fun c_4 => ?_)
    · rw [if_pos (c_4)] at hf
      cases hf
      exact k_IAE hx hb htr hown hts hxo hS (hl.1.trans hml.symm) 75 "no such slot" (by decide) dX6_integrate_21 dX6_integrate_24 dX6_integrate_25 dX6_integrate_27 dX6_integrate_30 hout (Nat.le_of_ble_eq_true rfl) (Nat.le_of_ble_eq_true rfl) (Nat.le_of_ble_eq_true rfl) (Nat.le_of_ble_eq_true rfl) hlocks hP
    · rw [if_neg (c_4)] at hf
      refine lv_iload_n hx hb dX6_integrate_14 rfl (lv_at hl 3 rfl) ?_
      obtain ⟨r_5, hr_5, hf⟩ := obd hf
      refine cRiS (As := [.int a3]) (rest := []) ⟨hx, hb, hml, hown, hts⟩ (m_X6_isSlot l G cA a3 r_5 hr_5) (cw_X6_isSlot hts wi_308 ⟨Nat.le_of_ble_eq_true rfl, Nat.le_of_ble_eq_true rfl⟩) hK va_Pnil rfl hl.1 rfl (Nat.le_of_ble_eq_true rfl) dX6_integrate_15 ⟨Nat.zero_le _, Nat.zero_le _⟩ ?_
      refine lv_if_ne (tgt := 31) hx hb dX6_integrate_18 (by decide) (fun c_6 => ?_) (fun c_6 => ?_)
      · rw [if_pos (c_6)] at hf
        refine lv_aload_n hx hb dX6_integrate_31 rfl (lv_at hl 0 rfl) ?_
        refine va_get (D := G) (ci := 4) (v := .ref (Q 0 1)) (C := RX6) (T := TX6) (N := 6) hx hb hts fin_X6 hown hK.1 hP 0 rfl rfl 0 (by decide) (hts _ wi_171) (fun _ h9 => h9) rfl dX6_integrate_32 ?_
        refine lv_iload_n hx hb dX6_integrate_35 rfl (lv_at hl 3 rfl) ?_
        obtain ⟨hi_7, hf⟩ := oif hf
        refine va_aldq hx hb hK.1 hP 1 3 rfl rfl (inb_in hi_7) dX6_integrate_36 ?_
        refine W.eq (g2 := F0 m 37 ls [.ref (Q (6 + a3.toNatClampNeg) 0)]) rfl ?_
        obtain ⟨r_8, hr_8, hf⟩ := obd hf
        refine cRiV (As := []) (rest := []) ⟨hx, hb, hml, hown, hts⟩ (m_X4_isSmall l G cA (Q (6 + a3.toNatClampNeg)) 40 (gD_slots zD a3.toNatClampNeg) r_8 hr_8) (cw_X4_isSmall hts wi_538 ⟨Nat.le_of_ble_eq_true rfl, Nat.le_of_ble_eq_true rfl⟩) hK (pk hP (sIs a3.toNatClampNeg) (slotC cA Q zD (inb8 hi_7))) (slotRecv hK.1 hP (inb8 hi_7)) rfl hl.1 rfl (Nat.le_of_ble_eq_true rfl) dX6_integrate_37 ⟨Nat.zero_le _, Nat.zero_le _⟩ ?_
        refine lv_if_ne (tgt := 53) hx hb dX6_integrate_40 (by decide) (fun c_9 => ?_) (fun c_9 => ?_)
        · rw [if_pos (c_9)] at hf
          refine lv_aload_n hx hb dX6_integrate_53 rfl (lv_at hl 0 rfl) ?_
          refine va_get (D := G) (ci := 4) (v := .ref (Q 1 0)) (C := RX6) (T := TX6) (N := 6) hx hb hts fin_X6 hown hK.1 hP 0 rfl rfl 1 (by decide) (hts _ wi_172) (fun _ h9 => h9) rfl dX6_integrate_54 ?_
          obtain ⟨r_10, hr_10, hf⟩ := obd hf
          refine cWvV (As := []) (rest := []) (W1 := ((wDesk cA Q (uD_work zD r_10)))) ⟨hx, hb, hml, hown, hts⟩ (m_X4_clear l G cA (Q 1) 200 (gD_work zD) r_10 hr_10) (cw_X4_clear hts wi_545 ⟨Nat.le_of_ble_eq_true rfl, Nat.le_of_ble_eq_true rfl⟩) hK hP hD hS [2, 3, 4, 5] [0, 1, 47, 48, 49, 50, 6, 7, 8, 9, 10, 11, 12, 13, 14, 15, 16, 17, 18, 19, 20, 21, 22, 23, 24, 25, 26, 27, 28, 29, 30, 31, 32, 33, 34, 35, 36, 37, 38, 39, 40, 41, 42, 43, 44, 45, 46] (subC_work cA Q zD) (by decide) (subB_work cA Q zD r_10) (by decide) (deskAdr cA Q _ _) va_Pnil dj_nil (va_recv hK.1 hP (ci := 2) (q0 := 2) rfl rfl) rfl hl.1 rfl (Nat.le_of_ble_eq_true rfl) dX6_integrate_57 ⟨Nat.zero_le _, Nat.zero_le _⟩ (fun H locs hP hD hS => ?_)
          refine lv_aload_n hx hb dX6_integrate_60 rfl (lv_at hl 0 rfl) ?_
          refine va_get (D := G) (ci := 4) (v := .ref (Q 2 0)) (C := RX6) (T := TX6) (N := 6) hx hb hts fin_X6 hown hK.1 hP 0 rfl rfl 2 (by decide) (hts _ wi_173) (fun _ h9 => h9) rfl dX6_integrate_61 ?_
          obtain ⟨r_11, hr_11, hf⟩ := obd hf
          refine cWvV (As := []) (rest := []) (W1 := ((wDesk cA Q (uD_left (uD_work zD r_10) r_11)))) ⟨hx, hb, hml, hown, hts⟩ (m_X4_clear l G cA (Q 2) 40 (gD_left (uD_work zD r_10)) r_11 hr_11) (cw_X4_clear hts wi_545 ⟨Nat.le_of_ble_eq_true rfl, Nat.le_of_ble_eq_true rfl⟩) hK hP hD hS [6, 7, 8, 9] [0, 1, 2, 3, 4, 5, 47, 48, 49, 50, 10, 11, 12, 13, 14, 15, 16, 17, 18, 19, 20, 21, 22, 23, 24, 25, 26, 27, 28, 29, 30, 31, 32, 33, 34, 35, 36, 37, 38, 39, 40, 41, 42, 43, 44, 45, 46] (subC_left cA Q (uD_work zD r_10)) (by decide) (subB_left cA Q (uD_work zD r_10) r_11) (by decide) (deskAdr cA Q _ _) va_Pnil dj_nil (va_recv hK.1 hP (ci := 2) (q0 := 6) rfl rfl) rfl hl.1 rfl (Nat.le_of_ble_eq_true rfl) dX6_integrate_64 ⟨Nat.zero_le _, Nat.zero_le _⟩ (fun H locs hP hD hS => ?_)
          refine lv_aload_n hx hb dX6_integrate_67 rfl (lv_at hl 0 rfl) ?_
          refine va_get (D := G) (ci := 4) (v := .ref (Q 1 0)) (C := RX6) (T := TX6) (N := 6) hx hb hts fin_X6 hown hK.1 hP 0 rfl rfl 1 (by decide) (hts _ wi_172) (fun _ h9 => h9) rfl dX6_integrate_68 ?_
          refine lv_aload_n hx hb dX6_integrate_71 rfl (lv_at hl 0 rfl) ?_
          refine va_get (D := G) (ci := 4) (v := .ref (Q 2 0)) (C := RX6) (T := TX6) (N := 6) hx hb hts fin_X6 hown hK.1 hP 0 rfl rfl 2 (by decide) (hts _ wi_173) (fun _ h9 => h9) rfl dX6_integrate_72 ?_
          refine lv_aload_n hx hb dX6_integrate_75 rfl (lv_at hl 0 rfl) ?_
          refine va_get (D := G) (ci := 4) (v := .ref (Q 0 1)) (C := RX6) (T := TX6) (N := 6) hx hb hts fin_X6 hown hK.1 hP 0 rfl rfl 0 (by decide) (hts _ wi_171) (fun _ h9 => h9) rfl dX6_integrate_76 ?_
          refine lv_iload_n hx hb dX6_integrate_79 rfl (lv_at hl 3 rfl) ?_
          obtain ⟨hi_12, hf⟩ := oif hf
          refine va_aldq hx hb hK.1 hP 1 3 rfl rfl (inb_in hi_12) dX6_integrate_80 ?_
          refine W.eq (g2 := F0 m 81 ls [.ref (Q (6 + a3.toNatClampNeg) 0), .ref (Q 2 0), .ref (Q 1 0)]) rfl ?_
          obtain ⟨r_13, hr_13, hf⟩ := obd hf
          refine cWvS (As := [.ref (Q 1 0), .ref (Q 2 0), .ref (Q (6 + a3.toNatClampNeg) 0)]) (rest := []) (W1 := ((wDesk cA Q (uD_left (uD_work (uD_left (uD_work zD r_10) r_11) r_13.1) r_13.2)))) ⟨hx, hb, hml, hown, hts⟩ (m_X0_putIntegral l G cA (Q 1) 200 (Q 2) 40 (Q (6 + a3.toNatClampNeg)) 40 (gD_slots (uD_left (uD_work zD r_10) r_11) a3.toNatClampNeg) (gD_work (uD_left (uD_work zD r_10) r_11)) (gD_left (uD_left (uD_work zD r_10) r_11)) r_13 hr_13) (cw_X0_putIntegral hts wi_618 ⟨Nat.le_of_ble_eq_true rfl, Nat.le_of_ble_eq_true rfl⟩) hK hP hD hS [2, 3, 4, 5, 6, 7, 8, 9] [0, 1, 47, 48, 49, 50, 51, 52, 53, 54, 10, 11, 12, 13, 14, 15, 16, 17, 18, 19, 20, 21, 22, 23, 24, 25, 26, 27, 28, 29, 30, 31, 32, 33, 34, 35, 36, 37, 38, 39, 40, 41, 42, 43, 44, 45, 46] (subC_work_left cA Q (uD_left (uD_work zD r_10) r_11)) (by decide) (subB_work_left cA Q (uD_left (uD_work zD r_10) r_11) r_13.1 r_13.2) (by decide) (deskAdr cA Q _ _) (pk hP (sIs a3.toNatClampNeg) (slotC cA Q (uD_left (uD_work zD r_10) r_11) (inb8 hi_12))) (dj_own (isC := [2, 3, 4, 5, 6, 7, 8, 9]) hD (sIs a3.toNatClampNeg) (subC_work_left cA Q (uD_left (uD_work zD r_10) r_11)) (slotC cA Q (uD_left (uD_work zD r_10) r_11) (inb8 hi_12)) (slotOut _ (by decide))) rfl hl.1 rfl (Nat.le_of_ble_eq_true rfl) dX6_integrate_81 ⟨Nat.zero_le _, Nat.zero_le _⟩ (fun H locs hP hD hS => ?_)
          refine lv_aload_n hx hb dX6_integrate_84 rfl (lv_at hl 0 rfl) ?_
          refine va_get (D := G) (ci := 4) (v := .ref (Q 1 0)) (C := RX6) (T := TX6) (N := 6) hx hb hts fin_X6 hown hK.1 hP 0 rfl rfl 1 (by decide) (hts _ wi_172) (fun _ h9 => h9) rfl dX6_integrate_85 ?_
          obtain ⟨r_14, hr_14, hf⟩ := obd hf
          refine cRiV (As := []) (rest := []) ⟨hx, hb, hml, hown, hts⟩ (m_X4_fits l G cA (Q 1) 200 (gD_work (uD_left (uD_work (uD_left (uD_work zD r_10) r_11) r_13.1) r_13.2)) r_14 hr_14) (cw_X4_fits hts wi_452 ⟨Nat.le_of_ble_eq_true rfl, Nat.le_of_ble_eq_true rfl⟩) hK (pk hP [2, 3, 4, 5] (subC_work cA Q (uD_left (uD_work (uD_left (uD_work zD r_10) r_11) r_13.1) r_13.2))) (va_recv hK.1 hP (ci := 2) (q0 := 2) rfl rfl) rfl hl.1 rfl (Nat.le_of_ble_eq_true rfl) dX6_integrate_88 ⟨Nat.zero_le _, Nat.zero_le _⟩ ?_
          refine lv_if_eq (tgt := 104) hx hb dX6_integrate_91 (by decide) (fun c_15 => ?_) (fun c_15 => ?_)
          · rw [if_pos (c_15)] at hf
            refine lv_bipush (v := (-4 : Int32)) hx hb dX6_integrate_104 (by decide) ?_
            cases hf
            refine W.widen (k := 1) (n := 6) (Nat.zero_le _) (Nat.zero_le _) ?_
            exact vx_ret (W.iret hx hb hr (fun t ht hW => ⟨⟨_, (), rfl, ⟨rfl, rfl⟩, toT ht hP⟩, hS.F ht⟩) hS.2.2 dX6_integrate_106 hlocks)
          · rw [if_neg (c_15)] at hf
            refine lv_aload_n hx hb dX6_integrate_94 rfl (lv_at hl 0 rfl) ?_
            refine va_get (D := G) (ci := 4) (v := .ref (Q 2 0)) (C := RX6) (T := TX6) (N := 6) hx hb hts fin_X6 hown hK.1 hP 0 rfl rfl 2 (by decide) (hts _ wi_173) (fun _ h9 => h9) rfl dX6_integrate_95 ?_
            obtain ⟨r_16, hr_16, hf⟩ := obd hf
            refine cRiV (As := []) (rest := []) ⟨hx, hb, hml, hown, hts⟩ (m_X4_fits l G cA (Q 2) 40 (gD_left (uD_left (uD_work (uD_left (uD_work zD r_10) r_11) r_13.1) r_13.2)) r_16 hr_16) (cw_X4_fits hts wi_452 ⟨Nat.le_of_ble_eq_true rfl, Nat.le_of_ble_eq_true rfl⟩) hK (pk hP [6, 7, 8, 9] (subC_left cA Q (uD_left (uD_work (uD_left (uD_work zD r_10) r_11) r_13.1) r_13.2))) (va_recv hK.1 hP (ci := 2) (q0 := 6) rfl rfl) rfl hl.1 rfl (Nat.le_of_ble_eq_true rfl) dX6_integrate_98 ⟨Nat.zero_le _, Nat.zero_le _⟩ ?_
            refine lv_if_ne (tgt := 107) hx hb dX6_integrate_101 (by decide) (fun c_17 => ?_) (fun c_17 => ?_)
            · rw [if_pos (c_17)] at hf
              refine lv_aload_n hx hb dX6_integrate_107 rfl (lv_at hl 0 rfl) ?_
              refine va_get (D := G) (ci := 4) (v := .ref (Q 0 1)) (C := RX6) (T := TX6) (N := 6) hx hb hts fin_X6 hown hK.1 hP 0 rfl rfl 0 (by decide) (hts _ wi_171) (fun _ h9 => h9) rfl dX6_integrate_108 ?_
              refine lv_iload_n hx hb dX6_integrate_111 rfl (lv_at hl 1 rfl) ?_
              obtain ⟨hi_18, hf⟩ := oif hf
              refine va_aldq hx hb hK.1 hP 1 3 rfl rfl (inb_in hi_18) dX6_integrate_112 ?_
              refine W.eq (g2 := F0 m 113 ls [.ref (Q (6 + a1.toNatClampNeg) 0)]) rfl ?_
              refine lv_aload_n hx hb dX6_integrate_113 rfl (lv_at hl 0 rfl) ?_
              refine va_get (D := G) (ci := 4) (v := .ref (Q 1 0)) (C := RX6) (T := TX6) (N := 6) hx hb hts fin_X6 hown hK.1 hP 0 rfl rfl 1 (by decide) (hts _ wi_172) (fun _ h9 => h9) rfl dX6_integrate_114 ?_
              obtain ⟨r_19, hr_19, hf⟩ := obd hf
              refine cWvV (As := [.ref (Q 1 0)]) (rest := []) (W1 := ((wDesk cA Q (uD_slot (uD_left (uD_work (uD_left (uD_work zD r_10) r_11) r_13.1) r_13.2) a1.toNatClampNeg r_19)))) ⟨hx, hb, hml, hown, hts⟩ (m_X4_become l G cA (Q (6 + a1.toNatClampNeg)) 40 (Q 1) 200 (gD_work (uD_left (uD_work (uD_left (uD_work zD r_10) r_11) r_13.1) r_13.2)) (gD_slots (uD_left (uD_work (uD_left (uD_work zD r_10) r_11) r_13.1) r_13.2) a1.toNatClampNeg) r_19 hr_19) (cw_X4_become hts wi_453 ⟨Nat.le_of_ble_eq_true rfl, Nat.le_of_ble_eq_true rfl⟩) hK hP hD hS (sIs a1.toNatClampNeg) (sBs a1.toNatClampNeg) (slotC cA Q (uD_left (uD_work (uD_left (uD_work zD r_10) r_11) r_13.1) r_13.2) (inb8 hi_18)) (slotNd (inb8 hi_18)) (slotB cA Q (uD_left (uD_work (uD_left (uD_work zD r_10) r_11) r_13.1) r_13.2) r_19 (inb8 hi_18)) (slotDis (inb8 hi_18)) (deskAdr cA Q _ _) (pk hP [2, 3, 4, 5] (subC_work cA Q (uD_left (uD_work (uD_left (uD_work zD r_10) r_11) r_13.1) r_13.2))) (dj_own (isC := (sIs a1.toNatClampNeg)) hD [2, 3, 4, 5] (slotC cA Q (uD_left (uD_work (uD_left (uD_work zD r_10) r_11) r_13.1) r_13.2) (inb8 hi_18)) (subC_work cA Q (uD_left (uD_work (uD_left (uD_work zD r_10) r_11) r_13.1) r_13.2)) (slotIn _ (by decide))) (slotRecv hK.1 hP (inb8 hi_18)) rfl hl.1 rfl (Nat.le_of_ble_eq_true rfl) dX6_integrate_117 ⟨Nat.zero_le _, Nat.zero_le _⟩ (fun H locs hP hD hS => ?_)
              refine lv_aload_n hx hb dX6_integrate_120 rfl (lv_at hl 0 rfl) ?_
              refine va_get (D := G) (ci := 4) (v := .ref (Q 0 1)) (C := RX6) (T := TX6) (N := 6) hx hb hts fin_X6 hown hK.1 hP 0 rfl rfl 0 (by decide) (hts _ wi_171) (fun _ h9 => h9) rfl dX6_integrate_121 ?_
              refine lv_iload_n hx hb dX6_integrate_124 rfl (lv_at hl 2 rfl) ?_
              obtain ⟨hi_20, hf⟩ := oif hf
              refine va_aldq hx hb hK.1 hP 1 3 rfl rfl (inb_in hi_20) dX6_integrate_125 ?_
              refine W.eq (g2 := F0 m 126 ls [.ref (Q (6 + a2.toNatClampNeg) 0)]) rfl ?_
              refine lv_aload_n hx hb dX6_integrate_126 rfl (lv_at hl 0 rfl) ?_
              refine va_get (D := G) (ci := 4) (v := .ref (Q 2 0)) (C := RX6) (T := TX6) (N := 6) hx hb hts fin_X6 hown hK.1 hP 0 rfl rfl 2 (by decide) (hts _ wi_173) (fun _ h9 => h9) rfl dX6_integrate_127 ?_
              obtain ⟨r_21, hr_21, hf⟩ := obd hf
              refine cWvV (As := [.ref (Q 2 0)]) (rest := []) (W1 := ((wDesk cA Q (uD_slot (uD_slot (uD_left (uD_work (uD_left (uD_work zD r_10) r_11) r_13.1) r_13.2) a1.toNatClampNeg r_19) a2.toNatClampNeg r_21)))) ⟨hx, hb, hml, hown, hts⟩ (m_X4_become l G cA (Q (6 + a2.toNatClampNeg)) 40 (Q 2) 40 (gD_left (uD_slot (uD_left (uD_work (uD_left (uD_work zD r_10) r_11) r_13.1) r_13.2) a1.toNatClampNeg r_19)) (gD_slots (uD_slot (uD_left (uD_work (uD_left (uD_work zD r_10) r_11) r_13.1) r_13.2) a1.toNatClampNeg r_19) a2.toNatClampNeg) r_21 hr_21) (cw_X4_become hts wi_453 ⟨Nat.le_of_ble_eq_true rfl, Nat.le_of_ble_eq_true rfl⟩) hK hP hD hS (sIs a2.toNatClampNeg) (sBs a2.toNatClampNeg) (slotC cA Q (uD_slot (uD_left (uD_work (uD_left (uD_work zD r_10) r_11) r_13.1) r_13.2) a1.toNatClampNeg r_19) (inb8 hi_20)) (slotNd (inb8 hi_20)) (slotB cA Q (uD_slot (uD_left (uD_work (uD_left (uD_work zD r_10) r_11) r_13.1) r_13.2) a1.toNatClampNeg r_19) r_21 (inb8 hi_20)) (slotDis (inb8 hi_20)) (deskAdr cA Q _ _) (pk hP [6, 7, 8, 9] (subC_left cA Q (uD_slot (uD_left (uD_work (uD_left (uD_work zD r_10) r_11) r_13.1) r_13.2) a1.toNatClampNeg r_19))) (dj_own (isC := (sIs a2.toNatClampNeg)) hD [6, 7, 8, 9] (slotC cA Q (uD_slot (uD_left (uD_work (uD_left (uD_work zD r_10) r_11) r_13.1) r_13.2) a1.toNatClampNeg r_19) (inb8 hi_20)) (subC_left cA Q (uD_slot (uD_left (uD_work (uD_left (uD_work zD r_10) r_11) r_13.1) r_13.2) a1.toNatClampNeg r_19)) (slotIn _ (by decide))) (slotRecv hK.1 hP (inb8 hi_20)) rfl hl.1 rfl (Nat.le_of_ble_eq_true rfl) dX6_integrate_130 ⟨Nat.zero_le _, Nat.zero_le _⟩ (fun H locs hP hD hS => ?_)
              refine lv_aload_n hx hb dX6_integrate_133 rfl (lv_at hl 0 rfl) ?_
              refine va_get (D := G) (ci := 4) (v := .ref (Q 2 0)) (C := RX6) (T := TX6) (N := 6) hx hb hts fin_X6 hown hK.1 hP 0 rfl rfl 2 (by decide) (hts _ wi_173) (fun _ h9 => h9) rfl dX6_integrate_134 ?_
              obtain ⟨r_22, hr_22, hf⟩ := obd hf
              refine cRiV (As := []) (rest := []) ⟨hx, hb, hml, hown, hts⟩ (m_X4_size l G cA (Q 2) 40 (gD_left (uD_slot (uD_slot (uD_left (uD_work (uD_left (uD_work zD r_10) r_11) r_13.1) r_13.2) a1.toNatClampNeg r_19) a2.toNatClampNeg r_21)) r_22 hr_22) (cw_X4_size hts wi_460 ⟨Nat.le_of_ble_eq_true rfl, Nat.le_of_ble_eq_true rfl⟩) hK (pk hP [6, 7, 8, 9] (subC_left cA Q (uD_slot (uD_slot (uD_left (uD_work (uD_left (uD_work zD r_10) r_11) r_13.1) r_13.2) a1.toNatClampNeg r_19) a2.toNatClampNeg r_21))) (va_recv hK.1 hP (ci := 2) (q0 := 6) rfl rfl) rfl hl.1 rfl (Nat.le_of_ble_eq_true rfl) dX6_integrate_137 ⟨Nat.zero_le _, Nat.zero_le _⟩ ?_
              cases hf
              refine W.widen (k := 1) (n := 6) (Nat.zero_le _) (Nat.zero_le _) ?_
              exact vx_ret (W.iret hx hb hr (fun t ht hW => ⟨⟨_, (), rfl, ⟨rfl, rfl⟩, toT ht hP⟩, hS.F ht⟩) hS.2.2 dX6_integrate_140 hlocks)
            · rw [if_neg (not_not_intro c_17)] at hf
              refine lv_bipush (v := (-4 : Int32)) hx hb dX6_integrate_104 (by decide) ?_
              cases hf
              refine W.widen (k := 1) (n := 6) (Nat.zero_le _) (Nat.zero_le _) ?_
              exact vx_ret (W.iret hx hb hr (fun t ht hW => ⟨⟨_, (), rfl, ⟨rfl, rfl⟩, toT ht hP⟩, hS.F ht⟩) hS.2.2 dX6_integrate_106 hlocks)
        · rw [if_neg (not_not_intro c_9)] at hf
          cases hf
          exact k_ISE hx hb htr hown hts hxo hS (hl.1.trans hml.symm) 130 "the sum is not small" (by decide) dX6_integrate_43 dX6_integrate_46 dX6_integrate_47 dX6_integrate_49 dX6_integrate_52 hout (Nat.le_of_ble_eq_true rfl) (Nat.le_of_ble_eq_true rfl) (Nat.le_of_ble_eq_true rfl) (Nat.le_of_ble_eq_true rfl) hlocks hP
      · rw [if_neg (not_not_intro c_6)] at hf
        cases hf
        exact k_IAE hx hb htr hown hts hxo hS (hl.1.trans hml.symm) 75 "no such slot" (by decide) dX6_integrate_21 dX6_integrate_24 dX6_integrate_25 dX6_integrate_27 dX6_integrate_30 hout (Nat.le_of_ble_eq_true rfl) (Nat.le_of_ble_eq_true rfl) (Nat.le_of_ble_eq_true rfl) (Nat.le_of_ble_eq_true rfl) hlocks hP

set_option maxRecDepth 100000 in
theorem m_X6_integrate (l : Launch) (G : va_G) (cA : Nat → ClassId) (htr : l.stackTraces = false) (sa : Nat → Nat) (Q : Nat → Nat → Nat) (zD : DeskS) (a1 : Int32) (a2 : Int32) (a3 : Int32) (res : Int32 × Int32 × DeskS) (hf : f_X6_integrate zD a1 a2 a3 = some res) : MXi l yX6_integrate (.code yX6_integrate cX6_integrate 4 (some .int) :: wd) rm_X6_integrate G cA sa [.ref (Q 0 0), .int a1, .int a2, .int a3] ((wDesk cA Q zD)) ((wDesk cA Q res.2.2)) res.1 res.2.1 := by
  refine vx_ofW (cc := cX6_integrate) (maxL := 4) (ret := (some .int)) (by decide) rfl ?_
  intro p e s m args below meth c s₁ B hml hout hv
  obtain ⟨rfl, hK, hP, hD0, hxo⟩ := hv
  have C0 : Amb p s m ([.ref (Q 0 0), .int a1, .int a2, .int a3] : List Value).toArray meth c cX6_integrate RX6 4 (some .int) G cA (adr ((wDesk cA Q zD))) [] := ⟨B.exec, B.bytes, B.returns, hml, findClass_of_methodNamed B.named, fun w h => atoms_spec (ws := (.code yX6_integrate cX6_integrate 4 (some .int) :: wd)) B.pre w (List.mem_cons_of_mem _ h), B.notSynchronized, hK, va_Pnil, fun k q h => by simp at h⟩
  have hl := lv_entry ([.ref (Q 0 0), .int a1, .int a2, .int a3]) (n := 4) (Nat.le_of_ble_eq_true rfl)
  rw [lg_entry_eq]
  generalize (lg_sl ([.ref (Q 0 0), .int a1, .int a2, .int a3]) ++ List.replicate (4 - (lg_sl ([.ref (Q 0 0), .int a1, .int a2, .int a3])).length) Slot.unset).toArray = ls at hl ⊢
  have hl : lv_has ls 4 [(0, .ref (Q 0 0)), (1, .int a1), (2, .int a2), (3, .int a3)] := hl
  exact b_X6_integrate_0 (W9 := ((wDesk cA Q zD))) sa Q   C0 ⟨htr, hxo, hout⟩ zD a1 a2 a3 s.heap [] ls hP (adr.self hD0) va_S.rf hl hf
theorem cw_X6_integrate {R : Room} {s : State} {args : Array Value} {own : String} {index : Nat} (ht : ∀ w ∈ wd, w.before args s = true) (hlink : Cond.methodLink own index yX6_integrate ∈ wd) (hR : rm_X6_integrate.frames + 1 ≤ R.frames ∧ 8 + (4 + 11) + rm_X6_integrate.locals ≤ R.locals) : CallW R s args own RX6 index yX6_integrate cX6_integrate 4 (some .int) (.code yX6_integrate cX6_integrate 4 (some .int) :: wd) rm_X6_integrate 1 6 3 := cwV9x (mc := 1) (ms := 6) 3 ht wi_616 wi_614 wi_615 wi_55 hlink (by decide +kernel) rfl rfl hR
def rm_X6_same : Room := { frames := 6, cells := 1, slots := 6, locals := 90 }
def f_X6_same (zD : DeskS) (a1 : Int32) (a2 : Int32) : Option (Int32 × Int32 × DeskS) := (f_X6_isSlot a1).bind fun r_1 => if r_1 = 0 then some ((1 : Int32), (0 : Int32), zD) else (f_X6_isSlot a2).bind fun r_3 => if ¬ r_3 = 0 then if inb a1 8 = true then if inb a2 8 = true then (f_X4_matches 40 40 (gD_slots zD a1.toNatClampNeg) (gD_slots zD a2.toNatClampNeg)).bind fun r_7 => if zb r_7 = true then some ((0 : Int32), r_7, zD) else none else none else none else some ((1 : Int32), (0 : Int32), zD)
set_option maxHeartbeats 4000000 in
set_option maxRecDepth 100000 in
theorem b_X6_same_0 {p : Program} {l : Launch} {e : Env} {s : State} {m : MethodId} {args : Array Value} {below : List Frame} {meth : Method} {c : Code} {G : va_G} {cA : Nat → ClassId} {W9 : va_W} (sa : Nat → Nat) (Q : Nat → Nat → Nat) (C0 : Amb p s m args meth c cX6_same RX6 3 (some .boolean) G cA (adr W9) []) (X0 : l.stackTraces = false ∧ xOK (adr W9) sa s ∧ ∀ x ∈ c.exceptionTable.toList, False) {res : Int32 × Int32 × DeskS} : ∀ (zD : DeskS) (a1 : Int32) (a2 : Int32) (H : Heap) (locs : List Loc) (ls : Array Slot), va_P G vwCl ((wDesk cA Q zD)) H → va_D (adr W9) ((wDesk cA Q zD)) → va_S (adr W9) s.heap H locs → lv_has ls 3 [(0, .ref (Q 0 0)), (1, .int a1), (2, .int a2)] → f_X6_same zD a1 a2 = some res → W p l e rm_X6_same s m args below meth c H locs 0 0 (vx_MQ below (qXi G W9 ((wDesk cA Q res.2.2)) res.1 res.2.1) (qXx G W9 ((wDesk cA Q res.2.2)) res.1) args s 1 6 (adr W9)) (F0 m 0 ls []) := by
  obtain ⟨hx, hb, hr, hml, hown, hts, hlocks, hK, hR, hRA⟩ := id C0
  obtain ⟨htr, hxo, hout⟩ := id X0
  intro zD a1 a2 H locs ls hP hD hS hl hf
  unfold f_X6_same at hf
  refine lv_iload_n hx hb dX6_same_0 rfl (lv_at hl 1 rfl) ?_
  obtain ⟨r_1, hr_1, hf⟩ := obd hf
  refine cRiS (As := [.int a1]) (rest := []) ⟨hx, hb, hml, hown, hts⟩ (m_X6_isSlot l G cA a1 r_1 hr_1) (cw_X6_isSlot hts wi_308 ⟨Nat.le_of_ble_eq_true rfl, Nat.le_of_ble_eq_true rfl⟩) hK va_Pnil rfl hl.1 rfl (Nat.le_of_ble_eq_true rfl) dX6_same_1 ⟨Nat.zero_le _, Nat.zero_le _⟩ ?_
  refine lv_if_eq (tgt := 14) hx hb dX6_same_4 (by decide) (fun c_2 => ?_) (fun c_2 => ?_)
  · rw [if_pos (c_2)] at hf
    cases hf
    exact k_IAE hx hb htr hown hts hxo hS (hl.1.trans hml.symm) 75 "no such slot" (by decide) dX6_same_14 dX6_same_17 dX6_same_18 dX6_same_20 dX6_same_23 hout (Nat.le_of_ble_eq_true rfl) (Nat.le_of_ble_eq_true rfl) (Nat.le_of_ble_eq_true rfl) (Nat.le_of_ble_eq_true rfl) hlocks hP
  · rw [if_neg (c_2)] at hf
    refine lv_iload_n hx hb dX6_same_7 rfl (lv_at hl 2 rfl) ?_
    obtain ⟨r_3, hr_3, hf⟩ := obd hf
    refine cRiS (As := [.int a2]) (rest := []) ⟨hx, hb, hml, hown, hts⟩ (m_X6_isSlot l G cA a2 r_3 hr_3) (cw_X6_isSlot hts wi_308 ⟨Nat.le_of_ble_eq_true rfl, Nat.le_of_ble_eq_true rfl⟩) hK va_Pnil rfl hl.1 rfl (Nat.le_of_ble_eq_true rfl) dX6_same_8 ⟨Nat.zero_le _, Nat.zero_le _⟩ ?_
    refine lv_if_ne (tgt := 24) hx hb dX6_same_11 (by decide) (fun c_4 => ?_) (fun c_4 => ?_)
    · rw [if_pos (c_4)] at hf
      refine lv_aload_n hx hb dX6_same_24 rfl (lv_at hl 0 rfl) ?_
      refine va_get (D := G) (ci := 4) (v := .ref (Q 0 1)) (C := RX6) (T := TX6) (N := 6) hx hb hts fin_X6 hown hK.1 hP 0 rfl rfl 0 (by decide) (hts _ wi_171) (fun _ h9 => h9) rfl dX6_same_25 ?_
      refine lv_iload_n hx hb dX6_same_28 rfl (lv_at hl 1 rfl) ?_
      obtain ⟨hi_5, hf⟩ := oif hf
      refine va_aldq hx hb hK.1 hP 1 3 rfl rfl (inb_in hi_5) dX6_same_29 ?_
      refine W.eq (g2 := F0 m 30 ls [.ref (Q (6 + a1.toNatClampNeg) 0)]) rfl ?_
      refine lv_aload_n hx hb dX6_same_30 rfl (lv_at hl 0 rfl) ?_
      refine va_get (D := G) (ci := 4) (v := .ref (Q 0 1)) (C := RX6) (T := TX6) (N := 6) hx hb hts fin_X6 hown hK.1 hP 0 rfl rfl 0 (by decide) (hts _ wi_171) (fun _ h9 => h9) rfl dX6_same_31 ?_
      refine lv_iload_n hx hb dX6_same_34 rfl (lv_at hl 2 rfl) ?_
      obtain ⟨hi_6, hf⟩ := oif hf
      refine va_aldq hx hb hK.1 hP 1 3 rfl rfl (inb_in hi_6) dX6_same_35 ?_
      refine W.eq (g2 := F0 m 36 ls [.ref (Q (6 + a2.toNatClampNeg) 0), .ref (Q (6 + a1.toNatClampNeg) 0)]) rfl ?_
      obtain ⟨r_7, hr_7, hf⟩ := obd hf
      refine cRiV (As := [.ref (Q (6 + a2.toNatClampNeg) 0)]) (rest := []) ⟨hx, hb, hml, hown, hts⟩ (m_X4_matches l G cA (Q (6 + a1.toNatClampNeg)) 40 (Q (6 + a2.toNatClampNeg)) 40 (gD_slots zD a1.toNatClampNeg) (gD_slots zD a2.toNatClampNeg) r_7 hr_7) (cw_X4_matches hts wi_640 ⟨Nat.le_of_ble_eq_true rfl, Nat.le_of_ble_eq_true rfl⟩) hK (va_P.app (pk hP (sIs a1.toNatClampNeg) (slotC cA Q zD (inb8 hi_5))) (pk hP (sIs a2.toNatClampNeg) (slotC cA Q zD (inb8 hi_6)))) (slotRecv hK.1 hP (inb8 hi_5)) rfl hl.1 rfl (Nat.le_of_ble_eq_true rfl) dX6_same_36 ⟨Nat.zero_le _, Nat.zero_le _⟩ ?_
      obtain ⟨hz_8, hf⟩ := oif hf
      cases hf
      refine W.widen (k := 1) (n := 6) (Nat.zero_le _) (Nat.zero_le _) ?_
      exact vx_ret (W.zret hx hb hr (zb_n hz_8) (fun t ht hW => ⟨⟨_, (), rfl, ⟨rfl, rfl⟩, toT ht hP⟩, hS.F ht⟩) hS.2.2 dX6_same_39 hlocks)
    · rw [if_neg (not_not_intro c_4)] at hf
      cases hf
      exact k_IAE hx hb htr hown hts hxo hS (hl.1.trans hml.symm) 75 "no such slot" (by decide) dX6_same_14 dX6_same_17 dX6_same_18 dX6_same_20 dX6_same_23 hout (Nat.le_of_ble_eq_true rfl) (Nat.le_of_ble_eq_true rfl) (Nat.le_of_ble_eq_true rfl) (Nat.le_of_ble_eq_true rfl) hlocks hP

set_option maxRecDepth 100000 in
theorem m_X6_same (l : Launch) (G : va_G) (cA : Nat → ClassId) (htr : l.stackTraces = false) (sa : Nat → Nat) (Q : Nat → Nat → Nat) (zD : DeskS) (a1 : Int32) (a2 : Int32) (res : Int32 × Int32 × DeskS) (hf : f_X6_same zD a1 a2 = some res) : MXi l yX6_same (.code yX6_same cX6_same 3 (some .boolean) :: wd) rm_X6_same G cA sa [.ref (Q 0 0), .int a1, .int a2] ((wDesk cA Q zD)) ((wDesk cA Q res.2.2)) res.1 res.2.1 := by
  refine vx_ofW (cc := cX6_same) (maxL := 3) (ret := (some .boolean)) (by decide) rfl ?_
  intro p e s m args below meth c s₁ B hml hout hv
  obtain ⟨rfl, hK, hP, hD0, hxo⟩ := hv
  have C0 : Amb p s m ([.ref (Q 0 0), .int a1, .int a2] : List Value).toArray meth c cX6_same RX6 3 (some .boolean) G cA (adr ((wDesk cA Q zD))) [] := ⟨B.exec, B.bytes, B.returns, hml, findClass_of_methodNamed B.named, fun w h => atoms_spec (ws := (.code yX6_same cX6_same 3 (some .boolean) :: wd)) B.pre w (List.mem_cons_of_mem _ h), B.notSynchronized, hK, va_Pnil, fun k q h => by simp at h⟩
  have hl := lv_entry ([.ref (Q 0 0), .int a1, .int a2]) (n := 3) (Nat.le_of_ble_eq_true rfl)
  rw [lg_entry_eq]
  generalize (lg_sl ([.ref (Q 0 0), .int a1, .int a2]) ++ List.replicate (3 - (lg_sl ([.ref (Q 0 0), .int a1, .int a2])).length) Slot.unset).toArray = ls at hl ⊢
  have hl : lv_has ls 3 [(0, .ref (Q 0 0)), (1, .int a1), (2, .int a2)] := hl
  exact b_X6_same_0 (W9 := ((wDesk cA Q zD))) sa Q   C0 ⟨htr, hxo, hout⟩ zD a1 a2 s.heap [] ls hP (adr.self hD0) va_S.rf hl hf
theorem cw_X6_same {R : Room} {s : State} {args : Array Value} {own : String} {index : Nat} (ht : ∀ w ∈ wd, w.before args s = true) (hlink : Cond.methodLink own index yX6_same ∈ wd) (hR : rm_X6_same.frames + 1 ≤ R.frames ∧ 8 + (3 + 11) + rm_X6_same.locals ≤ R.locals) : CallW R s args own RX6 index yX6_same cX6_same 3 (some .boolean) (.code yX6_same cX6_same 3 (some .boolean) :: wd) rm_X6_same 1 6 2 := cwV9x (mc := 1) (ms := 6) 2 ht wi_639 wi_637 wi_638 wi_55 hlink (by decide +kernel) rfl rfl hR
def rm_X6_terms : Room := { frames := 6, cells := 1, slots := 6, locals := 90 }
def f_X6_terms (zD : DeskS) (a1 : Int32) : Option (Int32 × Int32 × DeskS) := (f_X6_isSlot a1).bind fun r_1 => if ¬ r_1 = 0 then if inb a1 8 = true then (f_X4_size 40 (gD_slots zD a1.toNatClampNeg)).bind fun r_4 => some ((0 : Int32), r_4, zD) else none else some ((1 : Int32), (0 : Int32), zD)
set_option maxHeartbeats 4000000 in
set_option maxRecDepth 100000 in
theorem b_X6_terms_0 {p : Program} {l : Launch} {e : Env} {s : State} {m : MethodId} {args : Array Value} {below : List Frame} {meth : Method} {c : Code} {G : va_G} {cA : Nat → ClassId} {W9 : va_W} (sa : Nat → Nat) (Q : Nat → Nat → Nat) (C0 : Amb p s m args meth c cX6_terms RX6 2 (some .int) G cA (adr W9) []) (X0 : l.stackTraces = false ∧ xOK (adr W9) sa s ∧ ∀ x ∈ c.exceptionTable.toList, False) {res : Int32 × Int32 × DeskS} : ∀ (zD : DeskS) (a1 : Int32) (H : Heap) (locs : List Loc) (ls : Array Slot), va_P G vwCl ((wDesk cA Q zD)) H → va_D (adr W9) ((wDesk cA Q zD)) → va_S (adr W9) s.heap H locs → lv_has ls 2 [(0, .ref (Q 0 0)), (1, .int a1)] → f_X6_terms zD a1 = some res → W p l e rm_X6_terms s m args below meth c H locs 0 0 (vx_MQ below (qXi G W9 ((wDesk cA Q res.2.2)) res.1 res.2.1) (qXx G W9 ((wDesk cA Q res.2.2)) res.1) args s 1 6 (adr W9)) (F0 m 0 ls []) := by
  obtain ⟨hx, hb, hr, hml, hown, hts, hlocks, hK, hR, hRA⟩ := id C0
  obtain ⟨htr, hxo, hout⟩ := id X0
  intro zD a1 H locs ls hP hD hS hl hf
  unfold f_X6_terms at hf
  refine lv_iload_n hx hb dX6_terms_0 rfl (lv_at hl 1 rfl) ?_
  obtain ⟨r_1, hr_1, hf⟩ := obd hf
  refine cRiS (As := [.int a1]) (rest := []) ⟨hx, hb, hml, hown, hts⟩ (m_X6_isSlot l G cA a1 r_1 hr_1) (cw_X6_isSlot hts wi_308 ⟨Nat.le_of_ble_eq_true rfl, Nat.le_of_ble_eq_true rfl⟩) hK va_Pnil rfl hl.1 rfl (Nat.le_of_ble_eq_true rfl) dX6_terms_1 ⟨Nat.zero_le _, Nat.zero_le _⟩ ?_
  refine lv_if_ne (tgt := 17) hx hb dX6_terms_4 (by decide) (fun c_2 => ?_) (fun c_2 => ?_)
  · rw [if_pos (c_2)] at hf
    refine lv_aload_n hx hb dX6_terms_17 rfl (lv_at hl 0 rfl) ?_
    refine va_get (D := G) (ci := 4) (v := .ref (Q 0 1)) (C := RX6) (T := TX6) (N := 6) hx hb hts fin_X6 hown hK.1 hP 0 rfl rfl 0 (by decide) (hts _ wi_171) (fun _ h9 => h9) rfl dX6_terms_18 ?_
    refine lv_iload_n hx hb dX6_terms_21 rfl (lv_at hl 1 rfl) ?_
    obtain ⟨hi_3, hf⟩ := oif hf
    refine va_aldq hx hb hK.1 hP 1 3 rfl rfl (inb_in hi_3) dX6_terms_22 ?_
    refine W.eq (g2 := F0 m 23 ls [.ref (Q (6 + a1.toNatClampNeg) 0)]) rfl ?_
    obtain ⟨r_4, hr_4, hf⟩ := obd hf
    refine cRiV (As := []) (rest := []) ⟨hx, hb, hml, hown, hts⟩ (m_X4_size l G cA (Q (6 + a1.toNatClampNeg)) 40 (gD_slots zD a1.toNatClampNeg) r_4 hr_4) (cw_X4_size hts wi_460 ⟨Nat.le_of_ble_eq_true rfl, Nat.le_of_ble_eq_true rfl⟩) hK (pk hP (sIs a1.toNatClampNeg) (slotC cA Q zD (inb8 hi_3))) (slotRecv hK.1 hP (inb8 hi_3)) rfl hl.1 rfl (Nat.le_of_ble_eq_true rfl) dX6_terms_23 ⟨Nat.zero_le _, Nat.zero_le _⟩ ?_
    cases hf
    refine W.widen (k := 1) (n := 6) (Nat.zero_le _) (Nat.zero_le _) ?_
    exact vx_ret (W.iret hx hb hr (fun t ht hW => ⟨⟨_, (), rfl, ⟨rfl, rfl⟩, toT ht hP⟩, hS.F ht⟩) hS.2.2 dX6_terms_26 hlocks)
  · rw [if_neg (not_not_intro c_2)] at hf
    cases hf
    exact k_IAE hx hb htr hown hts hxo hS (hl.1.trans hml.symm) 75 "no such slot" (by decide) dX6_terms_7 dX6_terms_10 dX6_terms_11 dX6_terms_13 dX6_terms_16 hout (Nat.le_of_ble_eq_true rfl) (Nat.le_of_ble_eq_true rfl) (Nat.le_of_ble_eq_true rfl) (Nat.le_of_ble_eq_true rfl) hlocks hP

set_option maxRecDepth 100000 in
theorem m_X6_terms (l : Launch) (G : va_G) (cA : Nat → ClassId) (htr : l.stackTraces = false) (sa : Nat → Nat) (Q : Nat → Nat → Nat) (zD : DeskS) (a1 : Int32) (res : Int32 × Int32 × DeskS) (hf : f_X6_terms zD a1 = some res) : MXi l yX6_terms (.code yX6_terms cX6_terms 2 (some .int) :: wd) rm_X6_terms G cA sa [.ref (Q 0 0), .int a1] ((wDesk cA Q zD)) ((wDesk cA Q res.2.2)) res.1 res.2.1 := by
  refine vx_ofW (cc := cX6_terms) (maxL := 2) (ret := (some .int)) (by decide) rfl ?_
  intro p e s m args below meth c s₁ B hml hout hv
  obtain ⟨rfl, hK, hP, hD0, hxo⟩ := hv
  have C0 : Amb p s m ([.ref (Q 0 0), .int a1] : List Value).toArray meth c cX6_terms RX6 2 (some .int) G cA (adr ((wDesk cA Q zD))) [] := ⟨B.exec, B.bytes, B.returns, hml, findClass_of_methodNamed B.named, fun w h => atoms_spec (ws := (.code yX6_terms cX6_terms 2 (some .int) :: wd)) B.pre w (List.mem_cons_of_mem _ h), B.notSynchronized, hK, va_Pnil, fun k q h => by simp at h⟩
  have hl := lv_entry ([.ref (Q 0 0), .int a1]) (n := 2) (Nat.le_of_ble_eq_true rfl)
  rw [lg_entry_eq]
  generalize (lg_sl ([.ref (Q 0 0), .int a1]) ++ List.replicate (2 - (lg_sl ([.ref (Q 0 0), .int a1])).length) Slot.unset).toArray = ls at hl ⊢
  have hl : lv_has ls 2 [(0, .ref (Q 0 0)), (1, .int a1)] := hl
  exact b_X6_terms_0 (W9 := ((wDesk cA Q zD))) sa Q   C0 ⟨htr, hxo, hout⟩ zD a1 s.heap [] ls hP (adr.self hD0) va_S.rf hl hf
theorem cw_X6_terms {R : Room} {s : State} {args : Array Value} {own : String} {index : Nat} (ht : ∀ w ∈ wd, w.before args s = true) (hlink : Cond.methodLink own index yX6_terms ∈ wd) (hR : rm_X6_terms.frames + 1 ≤ R.frames ∧ 8 + (2 + 11) + rm_X6_terms.locals ≤ R.locals) : CallW R s args own RX6 index yX6_terms cX6_terms 2 (some .int) (.code yX6_terms cX6_terms 2 (some .int) :: wd) rm_X6_terms 1 6 1 := cwV9x (mc := 1) (ms := 6) 1 ht wi_650 wi_648 wi_649 wi_55 hlink (by decide +kernel) rfl rfl hR
def rm_X6_term : Room := { frames := 6, cells := 1, slots := 6, locals := 90 }
def f_X6_term (zD : DeskS) (a1 : Int32) (a2 : Int32) (a3 : Int32) : Option (Int32 × Int64 × DeskS) := (f_X6_isSlot a1).bind fun r_1 => if ¬ r_1 = 0 then if a3 < 0 then some ((1 : Int32), (0 : Int64), zD) else if a3 ≤ (4 : Int32) then if inb a1 8 = true then (f_X4_has 40 (gD_slots zD a1.toNatClampNeg) a2).bind fun r_6 => if ¬ r_6 = 0 then if a3 = 0 then (f_X4_topAt 40 (gD_slots zD a1.toNatClampNeg) a2).bind fun r_9 => some ((0 : Int32), r_9, zD) else if a3 = 1 then (f_X4_bottomAt 40 (gD_slots zD a1.toNatClampNeg) a2).bind fun r_11 => some ((0 : Int32), r_11, zD) else if a3 = 2 then (f_X4_kindAt 40 (gD_slots zD a1.toNatClampNeg) a2).bind fun r_13 => some ((0 : Int32), r_13.toInt64, zD) else if a3 = 3 then (f_X4_argumentAt 40 (gD_slots zD a1.toNatClampNeg) a2).bind fun r_15 => some ((0 : Int32), r_15.toInt64, zD) else (f_X4_powerAt 40 (gD_slots zD a1.toNatClampNeg) a2).bind fun r_16 => some ((0 : Int32), r_16.toInt64, zD) else some ((0 : Int32), (0 : Int64), zD) else none else some ((1 : Int32), (0 : Int64), zD) else some ((1 : Int32), (0 : Int64), zD)
set_option maxHeartbeats 4000000 in
set_option maxRecDepth 100000 in
theorem b_X6_term_0 {p : Program} {l : Launch} {e : Env} {s : State} {m : MethodId} {args : Array Value} {below : List Frame} {meth : Method} {c : Code} {G : va_G} {cA : Nat → ClassId} {W9 : va_W} (sa : Nat → Nat) (Q : Nat → Nat → Nat) (C0 : Amb p s m args meth c cX6_term RX6 5 (some .long) G cA (adr W9) []) (X0 : l.stackTraces = false ∧ xOK (adr W9) sa s ∧ ∀ x ∈ c.exceptionTable.toList, False) {res : Int32 × Int64 × DeskS} : ∀ (zD : DeskS) (a1 : Int32) (a2 : Int32) (a3 : Int32) (H : Heap) (locs : List Loc) (ls : Array Slot), va_P G vwCl ((wDesk cA Q zD)) H → va_D (adr W9) ((wDesk cA Q zD)) → va_S (adr W9) s.heap H locs → lv_has ls 5 [(0, .ref (Q 0 0)), (1, .int a1), (2, .int a2), (3, .int a3)] → f_X6_term zD a1 a2 a3 = some res → W p l e rm_X6_term s m args below meth c H locs 0 0 (vx_MQ below (qXl G W9 ((wDesk cA Q res.2.2)) res.1 res.2.1) (qXx G W9 ((wDesk cA Q res.2.2)) res.1) args s 1 6 (adr W9)) (F0 m 0 ls []) := by
  obtain ⟨hx, hb, hr, hml, hown, hts, hlocks, hK, hR, hRA⟩ := id C0
  obtain ⟨htr, hxo, hout⟩ := id X0
  intro zD a1 a2 a3 H locs ls hP hD hS hl hf
  unfold f_X6_term at hf
  refine lv_iload_n hx hb dX6_term_0 rfl (lv_at hl 1 rfl) ?_
  obtain ⟨r_1, hr_1, hf⟩ := obd hf
  refine cRiS (As := [.int a1]) (rest := []) ⟨hx, hb, hml, hown, hts⟩ (m_X6_isSlot l G cA a1 r_1 hr_1) (cw_X6_isSlot hts wi_308 ⟨Nat.le_of_ble_eq_true rfl, Nat.le_of_ble_eq_true rfl⟩) hK va_Pnil rfl hl.1 rfl (Nat.le_of_ble_eq_true rfl) dX6_term_1 ⟨Nat.zero_le _, Nat.zero_le _⟩ ?_
  refine lv_if_ne (tgt := 17) hx hb dX6_term_4 (by decide) (fun c_2 => ?_) (fun c_2 => ?_)
  · rw [if_pos (c_2)] at hf
    refine lv_iload_n hx hb dX6_term_17 rfl (lv_at hl 3 rfl) ?_
    refine lv_if_lt (tgt := 26) hx hb dX6_term_18 (by decide) (fun c_3 => ?_) (fun c_3 => ?_)
    · rw [if_pos (c_3)] at hf
      cases hf
      exact k_IAE hx hb htr hown hts hxo hS (hl.1.trans hml.symm) 145 "no such part of a term" (by decide) dX6_term_26 dX6_term_29 dX6_term_30 dX6_term_32 dX6_term_35 hout (Nat.le_of_ble_eq_true rfl) (Nat.le_of_ble_eq_true rfl) (Nat.le_of_ble_eq_true rfl) (Nat.le_of_ble_eq_true rfl) hlocks hP
    · rw [if_neg (c_3)] at hf
      refine lv_iload_n hx hb dX6_term_21 rfl (lv_at hl 3 rfl) ?_
      refine lv_iconst (v := 4) hx hb dX6_term_22 (by decide) ?_
      refine lv_icmp_le (tgt := 36) hx hb dX6_term_23 (by decide) (fun c_4 => ?_) (fun c_4 => ?_)
      · rw [if_pos (c_4)] at hf
        refine lv_aload_n hx hb dX6_term_36 rfl (lv_at hl 0 rfl) ?_
        refine va_get (D := G) (ci := 4) (v := .ref (Q 0 1)) (C := RX6) (T := TX6) (N := 6) hx hb hts fin_X6 hown hK.1 hP 0 rfl rfl 0 (by decide) (hts _ wi_171) (fun _ h9 => h9) rfl dX6_term_37 ?_
        refine lv_iload_n hx hb dX6_term_40 rfl (lv_at hl 1 rfl) ?_
        obtain ⟨hi_5, hf⟩ := oif hf
        refine va_aldq hx hb hK.1 hP 1 3 rfl rfl (inb_in hi_5) dX6_term_41 ?_
        refine W.eq (g2 := F0 m 42 ls [.ref (Q (6 + a1.toNatClampNeg) 0)]) rfl ?_
        refine lv_astore (lv' := [(4, .ref (Q (6 + a1.toNatClampNeg) 0)), (0, .ref (Q 0 0)), (1, .int a1), (2, .int a2), (3, .int a3)]) hx hb dX6_term_42 hl (by decide) rfl (fun ls hl => ?_)
        refine lv_aload hx hb dX6_term_44 (lv_at hl 0 rfl) ?_
        refine lv_iload_n hx hb dX6_term_46 rfl (lv_at hl 3 rfl) ?_
        obtain ⟨r_6, hr_6, hf⟩ := obd hf
        refine cRiV (As := [.int a2]) (rest := []) ⟨hx, hb, hml, hown, hts⟩ (m_X4_has l G cA (Q (6 + a1.toNatClampNeg)) 40 (gD_slots zD a1.toNatClampNeg) a2 r_6 hr_6) (cw_X4_has hts wi_659 ⟨Nat.le_of_ble_eq_true rfl, Nat.le_of_ble_eq_true rfl⟩) hK (pk hP (sIs a1.toNatClampNeg) (slotC cA Q zD (inb8 hi_5))) (slotRecv hK.1 hP (inb8 hi_5)) rfl hl.1 rfl (Nat.le_of_ble_eq_true rfl) dX6_term_47 ⟨Nat.zero_le _, Nat.zero_le _⟩ ?_
        refine lv_if_ne (tgt := 55) hx hb dX6_term_50 (by decide) (fun c_7 => ?_) (fun c_7 => ?_)
        · rw [if_pos (c_7)] at hf
          refine lv_iload_n hx hb dX6_term_55 rfl (lv_at hl 4 rfl) ?_
          by_cases c_8 : a3 = 0
          · rw [if_pos c_8] at hf
            rw [c_8]
            refine lv_tableIn (tgt := 88) (off := 32) hx hb dX6_term_56 (by decide) (by decide) (by decide) (by decide) ?_
            refine lv_aload hx hb dX6_term_88 (lv_at hl 0 rfl) ?_
            refine lv_iload_n hx hb dX6_term_90 rfl (lv_at hl 3 rfl) ?_
            obtain ⟨r_9, hr_9, hf⟩ := obd hf
            refine cRlV (As := [.int a2]) (rest := []) ⟨hx, hb, hml, hown, hts⟩ (m_X4_topAt l G cA (Q (6 + a1.toNatClampNeg)) 40 (gD_slots zD a1.toNatClampNeg) a2 r_9 hr_9) (cw_X4_topAt hts wi_660 ⟨Nat.le_of_ble_eq_true rfl, Nat.le_of_ble_eq_true rfl⟩) hK (pk hP (sIs a1.toNatClampNeg) (slotC cA Q zD (inb8 hi_5))) (slotRecv hK.1 hP (inb8 hi_5)) rfl hl.1 rfl (Nat.le_of_ble_eq_true rfl) dX6_term_91 ⟨Nat.zero_le _, Nat.zero_le _⟩ ?_
            cases hf
            refine W.widen (k := 1) (n := 6) (Nat.zero_le _) (Nat.zero_le _) ?_
            exact vx_ret (W.lret hx hb hr (fun t ht hW => ⟨⟨_, (), rfl, ⟨rfl, rfl⟩, toT ht hP⟩, hS.F ht⟩) hS.2.2 dX6_term_94 hlocks)
          · rw [if_neg c_8] at hf
            by_cases c_10 : a3 = 1
            · rw [if_pos c_10] at hf
              rw [c_10]
              refine lv_tableIn (tgt := 95) (off := 39) hx hb dX6_term_56 (by decide) (by decide) (by decide) (by decide) ?_
              refine lv_aload hx hb dX6_term_95 (lv_at hl 0 rfl) ?_
              refine lv_iload_n hx hb dX6_term_97 rfl (lv_at hl 3 rfl) ?_
              obtain ⟨r_11, hr_11, hf⟩ := obd hf
              refine cRlV (As := [.int a2]) (rest := []) ⟨hx, hb, hml, hown, hts⟩ (m_X4_bottomAt l G cA (Q (6 + a1.toNatClampNeg)) 40 (gD_slots zD a1.toNatClampNeg) a2 r_11 hr_11) (cw_X4_bottomAt hts wi_661 ⟨Nat.le_of_ble_eq_true rfl, Nat.le_of_ble_eq_true rfl⟩) hK (pk hP (sIs a1.toNatClampNeg) (slotC cA Q zD (inb8 hi_5))) (slotRecv hK.1 hP (inb8 hi_5)) rfl hl.1 rfl (Nat.le_of_ble_eq_true rfl) dX6_term_98 ⟨Nat.zero_le _, Nat.zero_le _⟩ ?_
              cases hf
              refine W.widen (k := 1) (n := 6) (Nat.zero_le _) (Nat.zero_le _) ?_
              exact vx_ret (W.lret hx hb hr (fun t ht hW => ⟨⟨_, (), rfl, ⟨rfl, rfl⟩, toT ht hP⟩, hS.F ht⟩) hS.2.2 dX6_term_101 hlocks)
            · rw [if_neg c_10] at hf
              by_cases c_12 : a3 = 2
              · rw [if_pos c_12] at hf
                rw [c_12]
                refine lv_tableIn (tgt := 102) (off := 46) hx hb dX6_term_56 (by decide) (by decide) (by decide) (by decide) ?_
                refine lv_aload hx hb dX6_term_102 (lv_at hl 0 rfl) ?_
                refine lv_iload_n hx hb dX6_term_104 rfl (lv_at hl 3 rfl) ?_
                obtain ⟨r_13, hr_13, hf⟩ := obd hf
                refine cRiV (As := [.int a2]) (rest := []) ⟨hx, hb, hml, hown, hts⟩ (m_X4_kindAt l G cA (Q (6 + a1.toNatClampNeg)) 40 (gD_slots zD a1.toNatClampNeg) a2 r_13 hr_13) (cw_X4_kindAt hts wi_662 ⟨Nat.le_of_ble_eq_true rfl, Nat.le_of_ble_eq_true rfl⟩) hK (pk hP (sIs a1.toNatClampNeg) (slotC cA Q zD (inb8 hi_5))) (slotRecv hK.1 hP (inb8 hi_5)) rfl hl.1 rfl (Nat.le_of_ble_eq_true rfl) dX6_term_105 ⟨Nat.zero_le _, Nat.zero_le _⟩ ?_
                refine lv_i2l (v := r_13.toInt64) hx hb dX6_term_108 rfl ?_
                cases hf
                refine W.widen (k := 1) (n := 6) (Nat.zero_le _) (Nat.zero_le _) ?_
                exact vx_ret (W.lret hx hb hr (fun t ht hW => ⟨⟨_, (), rfl, ⟨rfl, rfl⟩, toT ht hP⟩, hS.F ht⟩) hS.2.2 dX6_term_109 hlocks)
              · rw [if_neg c_12] at hf
                by_cases c_14 : a3 = 3
                · rw [if_pos c_14] at hf
                  rw [c_14]
                  refine lv_tableIn (tgt := 110) (off := 54) hx hb dX6_term_56 (by decide) (by decide) (by decide) (by decide) ?_
                  refine lv_aload hx hb dX6_term_110 (lv_at hl 0 rfl) ?_
                  refine lv_iload_n hx hb dX6_term_112 rfl (lv_at hl 3 rfl) ?_
                  obtain ⟨r_15, hr_15, hf⟩ := obd hf
                  refine cRiV (As := [.int a2]) (rest := []) ⟨hx, hb, hml, hown, hts⟩ (m_X4_argumentAt l G cA (Q (6 + a1.toNatClampNeg)) 40 (gD_slots zD a1.toNatClampNeg) a2 r_15 hr_15) (cw_X4_argumentAt hts wi_663 ⟨Nat.le_of_ble_eq_true rfl, Nat.le_of_ble_eq_true rfl⟩) hK (pk hP (sIs a1.toNatClampNeg) (slotC cA Q zD (inb8 hi_5))) (slotRecv hK.1 hP (inb8 hi_5)) rfl hl.1 rfl (Nat.le_of_ble_eq_true rfl) dX6_term_113 ⟨Nat.zero_le _, Nat.zero_le _⟩ ?_
                  refine lv_i2l (v := r_15.toInt64) hx hb dX6_term_116 rfl ?_
                  cases hf
                  refine W.widen (k := 1) (n := 6) (Nat.zero_le _) (Nat.zero_le _) ?_
                  exact vx_ret (W.lret hx hb hr (fun t ht hW => ⟨⟨_, (), rfl, ⟨rfl, rfl⟩, toT ht hP⟩, hS.F ht⟩) hS.2.2 dX6_term_117 hlocks)
                · rw [if_neg c_14] at hf
                  refine lv_tableOut (tgt := 118) hx hb dX6_term_56 (by have h0 := lv_neT (a := 0) c_8 (by decide); have h1 := lv_neT (a := 1) c_10 (by decide); have h2 := lv_neT (a := 2) c_12 (by decide); have h3 := lv_neT (a := 3) c_14 (by decide); omega) (by decide) ?_
                  refine lv_aload hx hb dX6_term_118 (lv_at hl 0 rfl) ?_
                  refine lv_iload_n hx hb dX6_term_120 rfl (lv_at hl 3 rfl) ?_
                  obtain ⟨r_16, hr_16, hf⟩ := obd hf
                  refine cRiV (As := [.int a2]) (rest := []) ⟨hx, hb, hml, hown, hts⟩ (m_X4_powerAt l G cA (Q (6 + a1.toNatClampNeg)) 40 (gD_slots zD a1.toNatClampNeg) a2 r_16 hr_16) (cw_X4_powerAt hts wi_664 ⟨Nat.le_of_ble_eq_true rfl, Nat.le_of_ble_eq_true rfl⟩) hK (pk hP (sIs a1.toNatClampNeg) (slotC cA Q zD (inb8 hi_5))) (slotRecv hK.1 hP (inb8 hi_5)) rfl hl.1 rfl (Nat.le_of_ble_eq_true rfl) dX6_term_121 ⟨Nat.zero_le _, Nat.zero_le _⟩ ?_
                  refine lv_i2l (v := r_16.toInt64) hx hb dX6_term_124 rfl ?_
                  cases hf
                  refine W.widen (k := 1) (n := 6) (Nat.zero_le _) (Nat.zero_le _) ?_
                  exact vx_ret (W.lret hx hb hr (fun t ht hW => ⟨⟨_, (), rfl, ⟨rfl, rfl⟩, toT ht hP⟩, hS.F ht⟩) hS.2.2 dX6_term_125 hlocks)
        · rw [if_neg (not_not_intro c_7)] at hf
          refine lv_lconst (v := (0 : Int64)) hx hb dX6_term_53 (by decide) ?_
          cases hf
          refine W.widen (k := 1) (n := 6) (Nat.zero_le _) (Nat.zero_le _) ?_
          exact vx_ret (W.lret hx hb hr (fun t ht hW => ⟨⟨_, (), rfl, ⟨rfl, rfl⟩, toT ht hP⟩, hS.F ht⟩) hS.2.2 dX6_term_54 hlocks)
      · rw [if_neg (c_4)] at hf
        cases hf
        exact k_IAE hx hb htr hown hts hxo hS (hl.1.trans hml.symm) 145 "no such part of a term" (by decide) dX6_term_26 dX6_term_29 dX6_term_30 dX6_term_32 dX6_term_35 hout (Nat.le_of_ble_eq_true rfl) (Nat.le_of_ble_eq_true rfl) (Nat.le_of_ble_eq_true rfl) (Nat.le_of_ble_eq_true rfl) hlocks hP
  · rw [if_neg (not_not_intro c_2)] at hf
    cases hf
    exact k_IAE hx hb htr hown hts hxo hS (hl.1.trans hml.symm) 75 "no such slot" (by decide) dX6_term_7 dX6_term_10 dX6_term_11 dX6_term_13 dX6_term_16 hout (Nat.le_of_ble_eq_true rfl) (Nat.le_of_ble_eq_true rfl) (Nat.le_of_ble_eq_true rfl) (Nat.le_of_ble_eq_true rfl) hlocks hP

set_option maxRecDepth 100000 in
theorem m_X6_term (l : Launch) (G : va_G) (cA : Nat → ClassId) (htr : l.stackTraces = false) (sa : Nat → Nat) (Q : Nat → Nat → Nat) (zD : DeskS) (a1 : Int32) (a2 : Int32) (a3 : Int32) (res : Int32 × Int64 × DeskS) (hf : f_X6_term zD a1 a2 a3 = some res) : MXl l yX6_term (.code yX6_term cX6_term 5 (some .long) :: wd) rm_X6_term G cA sa [.ref (Q 0 0), .int a1, .int a2, .int a3] ((wDesk cA Q zD)) ((wDesk cA Q res.2.2)) res.1 res.2.1 := by
  refine vx_ofW (cc := cX6_term) (maxL := 5) (ret := (some .long)) (by decide) rfl ?_
  intro p e s m args below meth c s₁ B hml hout hv
  obtain ⟨rfl, hK, hP, hD0, hxo⟩ := hv
  have C0 : Amb p s m ([.ref (Q 0 0), .int a1, .int a2, .int a3] : List Value).toArray meth c cX6_term RX6 5 (some .long) G cA (adr ((wDesk cA Q zD))) [] := ⟨B.exec, B.bytes, B.returns, hml, findClass_of_methodNamed B.named, fun w h => atoms_spec (ws := (.code yX6_term cX6_term 5 (some .long) :: wd)) B.pre w (List.mem_cons_of_mem _ h), B.notSynchronized, hK, va_Pnil, fun k q h => by simp at h⟩
  have hl := lv_entry ([.ref (Q 0 0), .int a1, .int a2, .int a3]) (n := 5) (Nat.le_of_ble_eq_true rfl)
  rw [lg_entry_eq]
  generalize (lg_sl ([.ref (Q 0 0), .int a1, .int a2, .int a3]) ++ List.replicate (5 - (lg_sl ([.ref (Q 0 0), .int a1, .int a2, .int a3])).length) Slot.unset).toArray = ls at hl ⊢
  have hl : lv_has ls 5 [(0, .ref (Q 0 0)), (1, .int a1), (2, .int a2), (3, .int a3)] := hl
  exact b_X6_term_0 (W9 := ((wDesk cA Q zD))) sa Q   C0 ⟨htr, hxo, hout⟩ zD a1 a2 a3 s.heap [] ls hP (adr.self hD0) va_S.rf hl hf
theorem cw_X6_term {R : Room} {s : State} {args : Array Value} {own : String} {index : Nat} (ht : ∀ w ∈ wd, w.before args s = true) (hlink : Cond.methodLink own index yX6_term ∈ wd) (hR : rm_X6_term.frames + 1 ≤ R.frames ∧ 8 + (5 + 11) + rm_X6_term.locals ≤ R.locals) : CallW R s args own RX6 index yX6_term cX6_term 5 (some .long) (.code yX6_term cX6_term 5 (some .long) :: wd) rm_X6_term 1 6 3 := cwV9x (mc := 1) (ms := 6) 3 ht wi_657 wi_655 wi_656 wi_55 hlink (by decide +kernel) rfl rfl hR
