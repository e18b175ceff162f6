def rm_X7_derive : Room := { frames := 3, cells := 0, slots := 0, locals := 68 }
def f_X7_derive_246 (kb_41 : MdS → Int32 → Int32 → Int32 → Option (Int32 × MdS)) (zM : MdS) (x1 : Int32) (x2 : Int32) (x3 : Int32) : Option (Int32 × MdS) := kb_41 zM x1 x2 (x3 + 1)
set_option maxHeartbeats 4000000 in
set_option maxRecDepth 100000 in
theorem b_X7_derive_246 {p : Program} {l : Launch} {e : Env} {s : State} {m : MethodId} {args : Array Value} {below : List Frame} {meth : Method} {c : Code} {G : va_G} {cA : Nat → ClassId} {W9 : va_W} (qM : Nat → Nat) (C0 : Amb p s m args meth c cX7_derive RX7 11 (some .int) G cA (adr W9) []) {res : Int32 × MdS} (kb_41 : MdS → Int32 → Int32 → Int32 → Option (Int32 × MdS)) (hkb_41 : ∀ (zM : MdS) (x1 : Int32) (x2 : Int32) (x3 : Int32) (H : Heap) (locs : List Loc) (ls : Array Slot), va_P G vwCl ((wMd cA qM zM)) H → va_D (adr W9) ((wMd cA qM zM)) → va_S (adr W9) s.heap H locs → lv_has ls 11 [(0, .ref (qM 0)), (1, .int x1), (2, .int x2), (3, .int x3)] → kb_41 zM x1 x2 x3 = some res → W p l e rm_X7_derive s m args below meth c H locs 0 0 (MQ below (qWi G W9 ((wMd cA qM res.2)) res.1) args s 0 0 (adr W9)) (F0 m 41 ls [])) : ∀ (zM : MdS) (x1 : Int32) (x2 : Int32) (x3 : Int32) (H : Heap) (locs : List Loc) (ls : Array Slot), va_P G vwCl ((wMd cA qM zM)) H → va_D (adr W9) ((wMd cA qM zM)) → va_S (adr W9) s.heap H locs → lv_has ls 11 [(0, .ref (qM 0)), (1, .int x1), (2, .int x2), (3, .int x3)] → f_X7_derive_246 kb_41 zM x1 x2 x3 = some res → W p l e rm_X7_derive s m args below meth c H locs 0 0 (MQ below (qWi G W9 ((wMd cA qM res.2)) res.1) args s 0 0 (adr W9)) (F0 m 246 ls []) := by
  obtain ⟨hx, hb, hr, hml, hown, hts, hlocks, hK, hR, hRA⟩ := id C0
  intro zM x1 x2 x3 H locs ls hP hD hS hl hf
  unfold f_X7_derive_246 at hf
  refine lv_iinc (v := (x3 + 1)) (lv' := [(3, .int (x3 + 1)), (0, .ref (qM 0)), (1, .int x1), (2, .int x2)]) hx hb dX7_derive_246 hl (k := 3) rfl rfl (by decide) rfl (fun ls hl => ?_)
  refine lv_goto (tgt := 41) hx hb dX7_derive_249 (by decide) ?_
  exact hkb_41 zM x1 x2 (x3 + 1) H locs ls hP hD hS (lv_sub hl [1, 2, 3, 0] rfl) hf
def f_X7_derive_241 (kb_41 : MdS → Int32 → Int32 → Int32 → Option (Int32 × MdS)) (zM : MdS) (x1 : Int32) (x2 : Int32) (x3 : Int32) (x6 : Int64) (v1 : Int32) (v2 : Int32) (v3 : Int32) (v4 : Int32) (v5 : Int64) : Option (Int32 × MdS) := (f_X7_addTerm zM v1 v2 v3 v4 v5 x6).bind fun r_1 => f_X7_derive_246 kb_41 r_1 x1 x2 x3
set_option maxHeartbeats 4000000 in
set_option maxRecDepth 100000 in
theorem b_X7_derive_241 {p : Program} {l : Launch} {e : Env} {s : State} {m : MethodId} {args : Array Value} {below : List Frame} {meth : Method} {c : Code} {G : va_G} {cA : Nat → ClassId} {W9 : va_W} (qM : Nat → Nat) (C0 : Amb p s m args meth c cX7_derive RX7 11 (some .int) G cA (adr W9) []) {res : Int32 × MdS} (kb_41 : MdS → Int32 → Int32 → Int32 → Option (Int32 × MdS)) (hkb_41 : ∀ (zM : MdS) (x1 : Int32) (x2 : Int32) (x3 : Int32) (H : Heap) (locs : List Loc) (ls : Array Slot), va_P G vwCl ((wMd cA qM zM)) H → va_D (adr W9) ((wMd cA qM zM)) → va_S (adr W9) s.heap H locs → lv_has ls 11 [(0, .ref (qM 0)), (1, .int x1), (2, .int x2), (3, .int x3)] → kb_41 zM x1 x2 x3 = some res → W p l e rm_X7_derive s m args below meth c H locs 0 0 (MQ below (qWi G W9 ((wMd cA qM res.2)) res.1) args s 0 0 (adr W9)) (F0 m 41 ls [])) : ∀ (zM : MdS) (x1 : Int32) (x2 : Int32) (x3 : Int32) (x6 : Int64) (v1 : Int32) (v2 : Int32) (v3 : Int32) (v4 : Int32) (v5 : Int64) (H : Heap) (locs : List Loc) (ls : Array Slot), va_P G vwCl ((wMd cA qM zM)) H → va_D (adr W9) ((wMd cA qM zM)) → va_S (adr W9) s.heap H locs → lv_has ls 11 [(0, .ref (qM 0)), (1, .int x1), (2, .int x2), (3, .int x3), (6, .long x6)] → f_X7_derive_241 kb_41 zM x1 x2 x3 x6 v1 v2 v3 v4 v5 = some res → W p l e rm_X7_derive s m args below meth c H locs 0 0 (MQ below (qWi G W9 ((wMd cA qM res.2)) res.1) args s 0 0 (adr W9)) (F0 m 241 ls [.long v5, .int v4, .int v3, .int v2, .int v1, .ref (qM 0)]) := by
  obtain ⟨hx, hb, hr, hml, hown, hts, hlocks, hK, hR, hRA⟩ := id C0
  intro zM x1 x2 x3 x6 v1 v2 v3 v4 v5 H locs ls hP hD hS hl hf
  unfold f_X7_derive_241 at hf
  refine lv_lload hx hb dX7_derive_241 (lv_at hl 4 rfl) ?_
  obtain ⟨r_1, hr_1, hf⟩ := obd hf
  refine cWvV (As := [.int v1, .int v2, .int v3, .int v4, .long v5, .long x6]) (rest := []) (W1 := ((wMd cA qM r_1))) ⟨hx, hb, hml, hown, hts⟩ (m_X7_addTerm l G cA qM zM v1 v2 v3 v4 v5 x6 r_1 hr_1) (cw_X7_addTerm hts wi_772 ⟨Nat.le_of_ble_eq_true rfl, Nat.le_of_ble_eq_true rfl⟩) hK hP hD hS [0, 1, 2, 3, 4] [5, 6, 7, 8, 9] rfl rfl rfl (by decide) rfl va_Pnil dj_nil (va_recv hK.1 hP (ci := 5) (q0 := 0) rfl rfl) rfl hl.1 rfl (Nat.le_of_ble_eq_true rfl) dX7_derive_243 ⟨Nat.zero_le _, Nat.zero_le _⟩ (fun H locs hP hD hS => ?_)
  exact b_X7_derive_246 qM   C0 kb_41 hkb_41 r_1 x1 x2 x3 H locs ls hP hD hS (lv_sub hl [0, 1, 2, 3] rfl) hf
def f_X7_derive_215 (kb_41 : MdS → Int32 → Int32 → Int32 → Option (Int32 × MdS)) (zM : MdS) (x1 : Int32) (x2 : Int32) (x3 : Int32) (x4 : Int64) (x6 : Int64) (x8 : Int32) (x9 : Int32) (x10 : Int32) (v1 : Int32) (v2 : Int32) : Option (Int32 × MdS) := if ¬ x9 = (3 : Int32) then f_X7_derive_241 kb_41 zM x1 x2 x3 x6 v1 v2 x10 x8 ((-x4) * x10.toInt64) else f_X7_derive_241 kb_41 zM x1 x2 x3 x6 v1 v2 x10 x8 (x4 * x10.toInt64)
set_option maxHeartbeats 4000000 in
set_option maxRecDepth 100000 in
theorem b_X7_derive_215 {p : Program} {l : Launch} {e : Env} {s : State} {m : MethodId} {args : Array Value} {below : List Frame} {meth : Method} {c : Code} {G : va_G} {cA : Nat → ClassId} {W9 : va_W} (qM : Nat → Nat) (C0 : Amb p s m args meth c cX7_derive RX7 11 (some .int) G cA (adr W9) []) {res : Int32 × MdS} (kb_41 : MdS → Int32 → Int32 → Int32 → Option (Int32 × MdS)) (hkb_41 : ∀ (zM : MdS) (x1 : Int32) (x2 : Int32) (x3 : Int32) (H : Heap) (locs : List Loc) (ls : Array Slot), va_P G vwCl ((wMd cA qM zM)) H → va_D (adr W9) ((wMd cA qM zM)) → va_S (adr W9) s.heap H locs → lv_has ls 11 [(0, .ref (qM 0)), (1, .int x1), (2, .int x2), (3, .int x3)] → kb_41 zM x1 x2 x3 = some res → W p l e rm_X7_derive s m args below meth c H locs 0 0 (MQ below (qWi G W9 ((wMd cA qM res.2)) res.1) args s 0 0 (adr W9)) (F0 m 41 ls [])) : ∀ (zM : MdS) (x1 : Int32) (x2 : Int32) (x3 : Int32) (x4 : Int64) (x6 : Int64) (x8 : Int32) (x9 : Int32) (x10 : Int32) (v1 : Int32) (v2 : Int32) (H : Heap) (locs : List Loc) (ls : Array Slot), va_P G vwCl ((wMd cA qM zM)) H → va_D (adr W9) ((wMd cA qM zM)) → va_S (adr W9) s.heap H locs → lv_has ls 11 [(0, .ref (qM 0)), (1, .int x1), (2, .int x2), (3, .int x3), (4, .long x4), (6, .long x6), (8, .int x8), (9, .int x9), (10, .int x10)] → f_X7_derive_215 kb_41 zM x1 x2 x3 x4 x6 x8 x9 x10 v1 v2 = some res → W p l e rm_X7_derive s m args below meth c H locs 0 0 (MQ below (qWi G W9 ((wMd cA qM res.2)) res.1) args s 0 0 (adr W9)) (F0 m 215 ls [.int v2, .int v1, .ref (qM 0)]) := by
  obtain ⟨hx, hb, hr, hml, hown, hts, hlocks, hK, hR, hRA⟩ := id C0
  intro zM x1 x2 x3 x4 x6 x8 x9 x10 v1 v2 H locs ls hP hD hS hl hf
  unfold f_X7_derive_215 at hf
  refine lv_iload hx hb dX7_derive_215 (lv_at hl 8 rfl) ?_
  refine lv_iload hx hb dX7_derive_217 (lv_at hl 6 rfl) ?_
  refine lv_iload hx hb dX7_derive_219 (lv_at hl 7 rfl) ?_
  refine lv_iconst (v := 3) hx hb dX7_derive_221 (by decide) ?_
  refine lv_icmp_ne (tgt := 234) hx hb dX7_derive_222 (by decide) (fun c_1 => ?_) (fun c_1 => ?_)
  · rw [if_pos (c_1)] at hf
    refine lv_lload hx hb dX7_derive_234 (lv_at hl 4 rfl) ?_
    refine lv_lneg hx hb dX7_derive_236 ?_
    refine lv_iload hx hb dX7_derive_237 (lv_at hl 8 rfl) ?_
    refine lv_i2l (v := x10.toInt64) hx hb dX7_derive_239 rfl ?_
    refine lv_lmul hx hb dX7_derive_240 ?_
    exact b_X7_derive_241 qM   C0 kb_41 hkb_41 zM x1 x2 x3 x6 v1 v2 x10 x8 ((-x4) * x10.toInt64) H locs ls hP hD hS (lv_sub hl [0, 1, 2, 3, 5] rfl) hf
  · rw [if_neg (not_not_intro c_1)] at hf
    refine lv_lload hx hb dX7_derive_225 (lv_at hl 4 rfl) ?_
    refine lv_iload hx hb dX7_derive_227 (lv_at hl 8 rfl) ?_
    refine lv_i2l (v := x10.toInt64) hx hb dX7_derive_229 rfl ?_
    refine lv_lmul hx hb dX7_derive_230 ?_
    refine lv_goto (tgt := 241) hx hb dX7_derive_231 (by decide) ?_
    exact b_X7_derive_241 qM   C0 kb_41 hkb_41 zM x1 x2 x3 x6 v1 v2 x10 x8 (x4 * x10.toInt64) H locs ls hP hD hS (lv_sub hl [0, 1, 2, 3, 5] rfl) hf
def f_X7_derive_41  : Nat → MdS → Int32 → Int32 → Int32 → Option (Int32 × MdS)
  | 0, _, _, _, _ => none
  | fu + 1, zM, x1, x2, x3 => if (1150 : Int32) ≤ x3 then (f_X7_finish zM x1).bind fun r_2 => some (r_2.1, r_2.2) else if inb (((1150 : Int32) * x2) + x3) nUD = true then (some ((gM_up zM (((1150 : Int32) * x2) + x3).toNatClampNeg))).bind fun y_4 => if inb (((1150 : Int32) * x2) + x3) nUD = true then (some ((gM_down zM (((1150 : Int32) * x2) + x3).toNatClampNeg))).bind fun y_6 => (some (((x3 - x3 / (25 : Int32) * (25 : Int32)) - (12 : Int32)))).bind fun y_7 => (f_X7_kindOf (x3 / (25 : Int32))).bind fun r_8 => (f_X7_countOf (x3 / (25 : Int32))).bind fun r_9 => if ¬ y_4 = (0 : Int64) then (f_X7_addTerm zM (8 : Int32) r_8 r_9 (y_7 - (1 : Int32)) (y_4 * y_7.toInt64) y_6).bind fun r_11 => if ¬ r_8 = (1 : Int32) then if ¬ r_8 = (2 : Int32) then if r_8 ≤ (2 : Int32) then f_X7_derive_246 (fun zM_ x1_ x2_ x3_ => f_X7_derive_41  fu zM_ x1_ x2_ x3_) r_11 x1 x2 x3 else if ¬ r_8 = (3 : Int32) then f_X7_derive_215 (fun zM_ x1_ x2_ x3_ => f_X7_derive_41  fu zM_ x1_ x2_ x3_) r_11 x1 x2 x3 y_4 y_6 y_7 r_8 r_9 (8 : Int32) (3 : Int32) else f_X7_derive_215 (fun zM_ x1_ x2_ x3_ => f_X7_derive_41  fu zM_ x1_ x2_ x3_) r_11 x1 x2 x3 y_4 y_6 y_7 r_8 r_9 (8 : Int32) (4 : Int32) else (f_X7_addTerm r_11 (8 : Int32) (2 : Int32) r_9 y_7 (y_4 * r_9.toInt64) y_6).bind fun r_16 => f_X7_derive_246 (fun zM_ x1_ x2_ x3_ => f_X7_derive_41  fu zM_ x1_ x2_ x3_) r_16 x1 x2 x3 else (f_X7_addTerm r_11 (8 : Int32) (1 : Int32) (r_9 - (1 : Int32)) (y_7 - (1 : Int32)) (y_4 * r_9.toInt64) y_6).bind fun r_17 => f_X7_derive_246 (fun zM_ x1_ x2_ x3_ => f_X7_derive_41  fu zM_ x1_ x2_ x3_) r_17 x1 x2 x3 else f_X7_derive_246 (fun zM_ x1_ x2_ x3_ => f_X7_derive_41  fu zM_ x1_ x2_ x3_) zM x1 x2 x3 else none else none
set_option maxHeartbeats 4000000 in
set_option maxRecDepth 100000 in
theorem b_X7_derive_41 {p : Program} {l : Launch} {e : Env} {s : State} {m : MethodId} {args : Array Value} {below : List Frame} {meth : Method} {c : Code} {G : va_G} {cA : Nat → ClassId} {W9 : va_W} (qM : Nat → Nat) (C0 : Amb p s m args meth c cX7_derive RX7 11 (some .int) G cA (adr W9) []) {res : Int32 × MdS} : ∀ (fu : Nat) (zM : MdS) (x1 : Int32) (x2 : Int32) (x3 : Int32) (H : Heap) (locs : List Loc) (ls : Array Slot), va_P G vwCl ((wMd cA qM zM)) H → va_D (adr W9) ((wMd cA qM zM)) → va_S (adr W9) s.heap H locs → lv_has ls 11 [(0, .ref (qM 0)), (1, .int x1), (2, .int x2), (3, .int x3)] → f_X7_derive_41 fu zM x1 x2 x3 = some res → W p l e rm_X7_derive s m args below meth c H locs 0 0 (MQ below (qWi G W9 ((wMd cA qM res.2)) res.1) args s 0 0 (adr W9)) (F0 m 41 ls []) := by
  obtain ⟨hx, hb, hr, hml, hown, hts, hlocks, hK, hR, hRA⟩ := id C0
  intro fu
  induction fu with
  | zero =>
    intro zM x1 x2 x3 H locs ls hP hD hS hl hf
    rw [f_X7_derive_41] at hf
    cases hf
  | succ fu ih =>
    intro zM x1 x2 x3 H locs ls hP hD hS hl hf
    rw [f_X7_derive_41] at hf
    refine lv_iload_n hx hb dX7_derive_41 rfl (lv_at hl 3 rfl) ?_
    refine lv_sipush (v := (1150 : Int32)) hx hb dX7_derive_42 (by decide) ?_
    refine lv_icmp_ge (tgt := 252) hx hb dX7_derive_45 (by decide) (fun c_1 => ?_) (fun c_1 => ?_)
    · rw [if_pos (c_1)] at hf
      refine lv_aload_n hx hb dX7_derive_252 rfl (lv_at hl 0 rfl) ?_
      refine lv_iload_n hx hb dX7_derive_253 rfl (lv_at hl 1 rfl) ?_
      obtain ⟨r_2, hr_2, hf⟩ := obd hf
      refine cWiV (As := [.int x1]) (rest := []) (W1 := ((wMd cA qM r_2.2))) ⟨hx, hb, hml, hown, hts⟩ (m_X7_finish l G cA qM zM x1 r_2 hr_2) (cw_X7_finish hts wi_790 ⟨Nat.le_of_ble_eq_true rfl, Nat.le_of_ble_eq_true rfl⟩) hK hP hD hS [0, 1, 2, 3, 4] [5, 6, 7, 8, 9] rfl rfl rfl (by decide) rfl va_Pnil dj_nil (va_recv hK.1 hP (ci := 5) (q0 := 0) rfl rfl) rfl hl.1 rfl (Nat.le_of_ble_eq_true rfl) dX7_derive_254 ⟨Nat.zero_le _, Nat.zero_le _⟩ (fun H locs hP hD hS => ?_)
      cases hf
      exact W.iret hx hb hr (fun t ht hW => ⟨⟨_, (), rfl, rfl, toT ht hP⟩, hS.F ht⟩) hS.2.2 dX7_derive_257 hlocks
    · rw [if_neg (c_1)] at hf
      refine lv_aload_n hx hb dX7_derive_48 rfl (lv_at hl 0 rfl) ?_
      refine va_get (D := G) (ci := 5) (v := .ref (qM 3)) (C := RX7) (T := TX7) (N := 13) hx hb hts fin_X7 hown hK.1 hP 0 rfl rfl 6 (by decide) (hts _ wi_677) (fun _ h9 => h9) rfl dX7_derive_49 ?_
      refine lv_sipush (v := (1150 : Int32)) hx hb dX7_derive_52 (by decide) ?_
      refine lv_iload_n hx hb dX7_derive_55 rfl (lv_at hl 2 rfl) ?_
      refine lv_imul hx hb dX7_derive_56 ?_
      refine lv_iload_n hx hb dX7_derive_57 rfl (lv_at hl 3 rfl) ?_
      refine lv_iadd hx hb dX7_derive_58 ?_
      obtain ⟨hi_3, hf⟩ := oif hf
      refine va_lald hx hb hK.1 hP 3 1 rfl rfl (inb_in hi_3) dX7_derive_59 ?_
      obtain ⟨y_4, hq, hf⟩ := obd hf
      have hy_4 : (gM_up zM (((1150 : Int32) * x2) + x3).toNatClampNeg) = y_4 := Option.some.inj hq
      rw [hy_4]
      refine lv_lstore (lv' := [(4, .long y_4), (0, .ref (qM 0)), (1, .int x1), (2, .int x2), (3, .int x3)]) hx hb dX7_derive_60 hl (by decide) rfl (fun ls hl => ?_)
      refine lv_aload_n hx hb dX7_derive_62 rfl (lv_at hl 1 rfl) ?_
      refine va_get (D := G) (ci := 5) (v := .ref (qM 4)) (C := RX7) (T := TX7) (N := 13) hx hb hts fin_X7 hown hK.1 hP 0 rfl rfl 7 (by decide) (hts _ wi_678) (fun _ h9 => h9) rfl dX7_derive_63 ?_
      refine lv_sipush (v := (1150 : Int32)) hx hb dX7_derive_66 (by decide) ?_
      refine lv_iload_n hx hb dX7_derive_69 rfl (lv_at hl 3 rfl) ?_
      refine lv_imul hx hb dX7_derive_70 ?_
      refine lv_iload_n hx hb dX7_derive_71 rfl (lv_at hl 4 rfl) ?_
      refine lv_iadd hx hb dX7_derive_72 ?_
      obtain ⟨hi_5, hf⟩ := oif hf
      refine va_lald hx hb hK.1 hP 4 1 rfl rfl (inb_in hi_5) dX7_derive_73 ?_
      obtain ⟨y_6, hq, hf⟩ := obd hf
      have hy_6 : (gM_down zM (((1150 : Int32) * x2) + x3).toNatClampNeg) = y_6 := Option.some.inj hq
      rw [hy_6]
      refine lv_lstore (lv' := [(6, .long y_6), (4, .long y_4), (0, .ref (qM 0)), (1, .int x1), (2, .int x2), (3, .int x3)]) hx hb dX7_derive_74 hl (by decide) rfl (fun ls hl => ?_)
      refine lv_iload_n hx hb dX7_derive_76 rfl (lv_at hl 5 rfl) ?_
      refine lv_bipush (v := (25 : Int32)) hx hb dX7_derive_77 (by decide) ?_
      refine lv_irem hx hb dX7_derive_79 (by decide) ?_
      refine lv_bipush (v := (12 : Int32)) hx hb dX7_derive_80 (by decide) ?_
      refine lv_isub hx hb dX7_derive_82 ?_
      obtain ⟨y_7, hq, hf⟩ := obd hf
      have hy_7 : ((x3 - x3 / (25 : Int32) * (25 : Int32)) - (12 : Int32)) = y_7 := Option.some.inj hq
      rw [hy_7]
      refine lv_istore (lv' := [(8, .int y_7), (6, .long y_6), (4, .long y_4), (0, .ref (qM 0)), (1, .int x1), (2, .int x2), (3, .int x3)]) hx hb dX7_derive_83 hl (by decide) rfl (fun ls hl => ?_)
      refine lv_iload_n hx hb dX7_derive_85 rfl (lv_at hl 6 rfl) ?_
      refine lv_bipush (v := (25 : Int32)) hx hb dX7_derive_86 (by decide) ?_
      refine lv_idiv hx hb dX7_derive_88 (by decide) ?_
      obtain ⟨r_8, hr_8, hf⟩ := obd hf
      refine cRiS (As := [.int (x3 / (25 : Int32))]) (rest := []) ⟨hx, hb, hml, hown, hts⟩ (m_X7_kindOf l G cA (x3 / (25 : Int32)) r_8 hr_8) (cw_X7_kindOf hts wi_833 ⟨Nat.le_of_ble_eq_true rfl, Nat.le_of_ble_eq_true rfl⟩) hK va_Pnil rfl hl.1 rfl (Nat.le_of_ble_eq_true rfl) dX7_derive_89 ⟨Nat.zero_le _, Nat.zero_le _⟩ ?_
      refine lv_istore (lv' := [(9, .int r_8), (8, .int y_7), (6, .long y_6), (4, .long y_4), (0, .ref (qM 0)), (1, .int x1), (2, .int x2), (3, .int x3)]) hx hb dX7_derive_92 hl (by decide) rfl (fun ls hl => ?_)
      refine lv_iload_n hx hb dX7_derive_94 rfl (lv_at hl 7 rfl) ?_
      refine lv_bipush (v := (25 : Int32)) hx hb dX7_derive_95 (by decide) ?_
      refine lv_idiv hx hb dX7_derive_97 (by decide) ?_
      obtain ⟨r_9, hr_9, hf⟩ := obd hf
      refine cRiS (As := [.int (x3 / (25 : Int32))]) (rest := []) ⟨hx, hb, hml, hown, hts⟩ (m_X7_countOf l G cA (x3 / (25 : Int32)) r_9 hr_9) (cw_X7_countOf hts wi_836 ⟨Nat.le_of_ble_eq_true rfl, Nat.le_of_ble_eq_true rfl⟩) hK va_Pnil rfl hl.1 rfl (Nat.le_of_ble_eq_true rfl) dX7_derive_98 ⟨Nat.zero_le _, Nat.zero_le _⟩ ?_
      refine lv_istore (lv' := [(10, .int r_9), (9, .int r_8), (8, .int y_7), (6, .long y_6), (4, .long y_4), (0, .ref (qM 0)), (1, .int x1), (2, .int x2), (3, .int x3)]) hx hb dX7_derive_101 hl (by decide) rfl (fun ls hl => ?_)
      refine lv_lload hx hb dX7_derive_103 (lv_at hl 4 rfl) ?_
      refine lv_lconst (v := (0 : Int64)) hx hb dX7_derive_105 (by decide) ?_
      refine W.lcmp hx hb dX7_derive_106 ?_
      refine lv_if_ne (tgt := 113) hx hb dX7_derive_107 (by decide) (fun c_10 => ?_) (fun c_10 => ?_)
      · rw [if_pos (fun h => c_10 ((lg_cmp_eq _ _).mpr h))] at hf
        refine lv_aload_n hx hb dX7_derive_113 rfl (lv_at hl 5 rfl) ?_
        refine lv_bipush (v := (8 : Int32)) hx hb dX7_derive_114 (by decide) ?_
        refine lv_iload hx hb dX7_derive_116 (lv_at hl 1 rfl) ?_
        refine lv_iload hx hb dX7_derive_118 (lv_at hl 0 rfl) ?_
        refine lv_iload hx hb dX7_derive_120 (lv_at hl 2 rfl) ?_
        refine lv_iconst (v := 1) hx hb dX7_derive_122 (by decide) ?_
        refine lv_isub hx hb dX7_derive_123 ?_
        refine lv_lload hx hb dX7_derive_124 (lv_at hl 4 rfl) ?_
        refine lv_iload hx hb dX7_derive_126 (lv_at hl 2 rfl) ?_
        refine lv_i2l (v := y_7.toInt64) hx hb dX7_derive_128 rfl ?_
        refine lv_lmul hx hb dX7_derive_129 ?_
        refine lv_lload hx hb dX7_derive_130 (lv_at hl 3 rfl) ?_
        obtain ⟨r_11, hr_11, hf⟩ := obd hf
        refine cWvV (As := [.int (8 : Int32), .int r_8, .int r_9, .int (y_7 - (1 : Int32)), .long (y_4 * y_7.toInt64), .long y_6]) (rest := []) (W1 := ((wMd cA qM r_11))) ⟨hx, hb, hml, hown, hts⟩ (m_X7_addTerm l G cA qM zM (8 : Int32) r_8 r_9 (y_7 - (1 : Int32)) (y_4 * y_7.toInt64) y_6 r_11 hr_11) (cw_X7_addTerm hts wi_772 ⟨Nat.le_of_ble_eq_true rfl, Nat.le_of_ble_eq_true rfl⟩) hK hP hD hS [0, 1, 2, 3, 4] [5, 6, 7, 8, 9] rfl rfl rfl (by decide) rfl va_Pnil dj_nil (va_recv hK.1 hP (ci := 5) (q0 := 0) rfl rfl) rfl hl.1 rfl (Nat.le_of_ble_eq_true rfl) dX7_derive_132 ⟨Nat.zero_le _, Nat.zero_le _⟩ (fun H locs hP hD hS => ?_)
        refine lv_iload hx hb dX7_derive_135 (lv_at hl 1 rfl) ?_
        refine lv_iconst (v := 1) hx hb dX7_derive_137 (by decide) ?_
        refine lv_icmp_ne (tgt := 167) hx hb dX7_derive_138 (by decide) (fun c_12 => ?_) (fun c_12 => ?_)
        · rw [if_pos (c_12)] at hf
          refine lv_iload hx hb dX7_derive_167 (lv_at hl 1 rfl) ?_
          refine lv_iconst (v := 2) hx hb dX7_derive_169 (by decide) ?_
          refine lv_icmp_ne (tgt := 195) hx hb dX7_derive_170 (by decide) (fun c_13 => ?_) (fun c_13 => ?_)
          · rw [if_pos (c_13)] at hf
            refine lv_iload hx hb dX7_derive_195 (lv_at hl 1 rfl) ?_
            refine lv_iconst (v := 2) hx hb dX7_derive_197 (by decide) ?_
            refine lv_icmp_le (tgt := 246) hx hb dX7_derive_198 (by decide) (fun c_14 => ?_) (fun c_14 => ?_)
            · rw [if_pos (c_14)] at hf
              exact b_X7_derive_246 qM   C0 (fun zM_ x1_ x2_ x3_ => f_X7_derive_41  fu zM_ x1_ x2_ x3_) ih r_11 x1 x2 x3 H locs ls hP hD hS (lv_sub hl [5, 6, 7, 8] rfl) hf
            · rw [if_neg (c_14)] at hf
              refine lv_aload_n hx hb dX7_derive_201 rfl (lv_at hl 5 rfl) ?_
              refine lv_bipush (v := (8 : Int32)) hx hb dX7_derive_202 (by decide) ?_
              refine lv_iload hx hb dX7_derive_204 (lv_at hl 1 rfl) ?_
              refine lv_iconst (v := 3) hx hb dX7_derive_206 (by decide) ?_
              refine lv_icmp_ne (tgt := 214) hx hb dX7_derive_207 (by decide) (fun c_15 => ?_) (fun c_15 => ?_)
              · rw [if_pos (c_15)] at hf
                refine lv_iconst (v := 3) hx hb dX7_derive_214 (by decide) ?_
                exact b_X7_derive_215 qM   C0 (fun zM_ x1_ x2_ x3_ => f_X7_derive_41  fu zM_ x1_ x2_ x3_) ih r_11 x1 x2 x3 y_4 y_6 y_7 r_8 r_9 (8 : Int32) (3 : Int32) H locs ls hP hD hS (lv_sub hl [5, 6, 7, 8, 4, 3, 2, 1, 0] rfl) hf
              · rw [if_neg (not_not_intro c_15)] at hf
                refine lv_iconst (v := 4) hx hb dX7_derive_210 (by decide) ?_
                refine lv_goto (tgt := 215) hx hb dX7_derive_211 (by decide) ?_
                exact b_X7_derive_215 qM   C0 (fun zM_ x1_ x2_ x3_ => f_X7_derive_41  fu zM_ x1_ x2_ x3_) ih r_11 x1 x2 x3 y_4 y_6 y_7 r_8 r_9 (8 : Int32) (4 : Int32) H locs ls hP hD hS (lv_sub hl [5, 6, 7, 8, 4, 3, 2, 1, 0] rfl) hf
          · rw [if_neg (not_not_intro c_13)] at hf
            refine lv_aload_n hx hb dX7_derive_173 rfl (lv_at hl 5 rfl) ?_
            refine lv_bipush (v := (8 : Int32)) hx hb dX7_derive_174 (by decide) ?_
            refine lv_iconst (v := 2) hx hb dX7_derive_176 (by decide) ?_
            refine lv_iload hx hb dX7_derive_177 (lv_at hl 0 rfl) ?_
            refine lv_iload hx hb dX7_derive_179 (lv_at hl 2 rfl) ?_
            refine lv_lload hx hb dX7_derive_181 (lv_at hl 4 rfl) ?_
            refine lv_iload hx hb dX7_derive_183 (lv_at hl 0 rfl) ?_
            refine lv_i2l (v := r_9.toInt64) hx hb dX7_derive_185 rfl ?_
            refine lv_lmul hx hb dX7_derive_186 ?_
            refine lv_lload hx hb dX7_derive_187 (lv_at hl 3 rfl) ?_
            obtain ⟨r_16, hr_16, hf⟩ := obd hf
            refine cWvV (As := [.int (8 : Int32), .int (2 : Int32), .int r_9, .int y_7, .long (y_4 * r_9.toInt64), .long y_6]) (rest := []) (W1 := ((wMd cA qM r_16))) ⟨hx, hb, hml, hown, hts⟩ (m_X7_addTerm l G cA qM r_11 (8 : Int32) (2 : Int32) r_9 y_7 (y_4 * r_9.toInt64) y_6 r_16 hr_16) (cw_X7_addTerm hts wi_772 ⟨Nat.le_of_ble_eq_true rfl, Nat.le_of_ble_eq_true rfl⟩) hK hP hD hS [0, 1, 2, 3, 4] [5, 6, 7, 8, 9] rfl rfl rfl (by decide) rfl va_Pnil dj_nil (va_recv hK.1 hP (ci := 5) (q0 := 0) rfl rfl) rfl hl.1 rfl (Nat.le_of_ble_eq_true rfl) dX7_derive_189 ⟨Nat.zero_le _, Nat.zero_le _⟩ (fun H locs hP hD hS => ?_)
            refine lv_goto (tgt := 246) hx hb dX7_derive_192 (by decide) ?_
            exact b_X7_derive_246 qM   C0 (fun zM_ x1_ x2_ x3_ => f_X7_derive_41  fu zM_ x1_ x2_ x3_) ih r_16 x1 x2 x3 H locs ls hP hD hS (lv_sub hl [5, 6, 7, 8] rfl) hf
        · rw [if_neg (not_not_intro c_12)] at hf
          refine lv_aload_n hx hb dX7_derive_141 rfl (lv_at hl 5 rfl) ?_
          refine lv_bipush (v := (8 : Int32)) hx hb dX7_derive_142 (by decide) ?_
          refine lv_iconst (v := 1) hx hb dX7_derive_144 (by decide) ?_
          refine lv_iload hx hb dX7_derive_145 (lv_at hl 0 rfl) ?_
          refine lv_iconst (v := 1) hx hb dX7_derive_147 (by decide) ?_
          refine lv_isub hx hb dX7_derive_148 ?_
          refine lv_iload hx hb dX7_derive_149 (lv_at hl 2 rfl) ?_
          refine lv_iconst (v := 1) hx hb dX7_derive_151 (by decide) ?_
          refine lv_isub hx hb dX7_derive_152 ?_
          refine lv_lload hx hb dX7_derive_153 (lv_at hl 4 rfl) ?_
          refine lv_iload hx hb dX7_derive_155 (lv_at hl 0 rfl) ?_
          refine lv_i2l (v := r_9.toInt64) hx hb dX7_derive_157 rfl ?_
          refine lv_lmul hx hb dX7_derive_158 ?_
          refine lv_lload hx hb dX7_derive_159 (lv_at hl 3 rfl) ?_
          obtain ⟨r_17, hr_17, hf⟩ := obd hf
          refine cWvV (As := [.int (8 : Int32), .int (1 : Int32), .int (r_9 - (1 : Int32)), .int (y_7 - (1 : Int32)), .long (y_4 * r_9.toInt64), .long y_6]) (rest := []) (W1 := ((wMd cA qM r_17))) ⟨hx, hb, hml, hown, hts⟩ (m_X7_addTerm l G cA qM r_11 (8 : Int32) (1 : Int32) (r_9 - (1 : Int32)) (y_7 - (1 : Int32)) (y_4 * r_9.toInt64) y_6 r_17 hr_17) (cw_X7_addTerm hts wi_772 ⟨Nat.le_of_ble_eq_true rfl, Nat.le_of_ble_eq_true rfl⟩) hK hP hD hS [0, 1, 2, 3, 4] [5, 6, 7, 8, 9] rfl rfl rfl (by decide) rfl va_Pnil dj_nil (va_recv hK.1 hP (ci := 5) (q0 := 0) rfl rfl) rfl hl.1 rfl (Nat.le_of_ble_eq_true rfl) dX7_derive_161 ⟨Nat.zero_le _, Nat.zero_le _⟩ (fun H locs hP hD hS => ?_)
          refine lv_goto (tgt := 246) hx hb dX7_derive_164 (by decide) ?_
          exact b_X7_derive_246 qM   C0 (fun zM_ x1_ x2_ x3_ => f_X7_derive_41  fu zM_ x1_ x2_ x3_) ih r_17 x1 x2 x3 H locs ls hP hD hS (lv_sub hl [5, 6, 7, 8] rfl) hf
      · rw [if_neg (fun h => h ((lg_cmp_eq _ _).mp c_10))] at hf
        refine lv_goto (tgt := 246) hx hb dX7_derive_110 (by decide) ?_
        exact b_X7_derive_246 qM   C0 (fun zM_ x1_ x2_ x3_ => f_X7_derive_41  fu zM_ x1_ x2_ x3_) ih zM x1 x2 x3 H locs ls hP hD hS (lv_sub hl [5, 6, 7, 8] rfl) hf
def f_X7_derive_20 (zM : MdS) (x1 : Int32) (x2 : Int32) (v1 : Int32) : Option (Int32 × MdS) := (f_X7_refused zM v1).bind fun r_1 => if r_1.1 = 0 then (f_X7_empty (uM_isFull r_1.2 (0 : Int32)) (8 : Int32)).bind fun r_3 => f_X7_derive_41 fuel r_3 x1 x2 (0 : Int32) else some ((0 : Int32), r_1.2)
set_option maxHeartbeats 4000000 in
set_option maxRecDepth 100000 in
theorem b_X7_derive_20 {p : Program} {l : Launch} {e : Env} {s : State} {m : MethodId} {args : Array Value} {below : List Frame} {meth : Method} {c : Code} {G : va_G} {cA : Nat → ClassId} {W9 : va_W} (qM : Nat → Nat) (C0 : Amb p s m args meth c cX7_derive RX7 11 (some .int) G cA (adr W9) []) {res : Int32 × MdS} : ∀ (zM : MdS) (x1 : Int32) (x2 : Int32) (v1 : Int32) (H : Heap) (locs : List Loc) (ls : Array Slot), va_P G vwCl ((wMd cA qM zM)) H → va_D (adr W9) ((wMd cA qM zM)) → va_S (adr W9) s.heap H locs → lv_has ls 11 [(0, .ref (qM 0)), (1, .int x1), (2, .int x2)] → f_X7_derive_20 zM x1 x2 v1 = some res → W p l e rm_X7_derive s m args below meth c H locs 0 0 (MQ below (qWi G W9 ((wMd cA qM res.2)) res.1) args s 0 0 (adr W9)) (F0 m 20 ls [.int v1, .ref (qM 0)]) := by
  obtain ⟨hx, hb, hr, hml, hown, hts, hlocks, hK, hR, hRA⟩ := id C0
  intro zM x1 x2 v1 H locs ls hP hD hS hl hf
  unfold f_X7_derive_20 at hf
  obtain ⟨r_1, hr_1, hf⟩ := obd hf
  refine cWiV (As := [.int v1]) (rest := []) (W1 := ((wMd cA qM r_1.2))) ⟨hx, hb, hml, hown, hts⟩ (m_X7_refused l G cA qM zM v1 r_1 hr_1) (cw_X7_refused hts wi_723 ⟨Nat.le_of_ble_eq_true rfl, Nat.le_of_ble_eq_true rfl⟩) hK hP hD hS [0, 1, 2, 3, 4] [5, 6, 7, 8, 9] rfl rfl rfl (by decide) rfl va_Pnil dj_nil (va_recv hK.1 hP (ci := 5) (q0 := 0) rfl rfl) rfl hl.1 rfl (Nat.le_of_ble_eq_true rfl) dX7_derive_20 ⟨Nat.zero_le _, Nat.zero_le _⟩ (fun H locs hP hD hS => ?_)
  refine lv_if_eq (tgt := 28) hx hb dX7_derive_23 (by decide) (fun c_2 => ?_) (fun c_2 => ?_)
  · rw [if_pos (c_2)] at hf
    refine lv_aload_n hx hb dX7_derive_28 rfl (lv_at hl 0 rfl) ?_
    refine lv_iconst (v := 0) hx hb dX7_derive_29 (by decide) ?_
    refine va_put (D := G) (ci := 5) (v := .int (0 : Int32)) (ty := .boolean) (C := RX7) (T := TX7) (N := 13) hx hb hts fin_X7 tyX7 tyX7_ok nmX7 hown hK.1 hP hD hS 0 rfl rfl 8 (by decide) (hts _ wi_679) (fun _ h9 => h9) rfl (by decide +kernel) (by decide) (by decide) (Nat.le_of_ble_eq_true rfl) dX7_derive_30 (fun H locs hP hD hS => ?_)
    have hP := sM_isFull_P hP
    have hD := sM_isFull_D hD
    refine lv_aload_n hx hb dX7_derive_33 rfl (lv_at hl 0 rfl) ?_
    refine lv_bipush (v := (8 : Int32)) hx hb dX7_derive_34 (by decide) ?_
    obtain ⟨r_3, hr_3, hf⟩ := obd hf
    refine cWvV (As := [.int (8 : Int32)]) (rest := []) (W1 := ((wMd cA qM r_3))) ⟨hx, hb, hml, hown, hts⟩ (m_X7_empty l G cA qM (uM_isFull r_1.2 (0 : Int32)) (8 : Int32) r_3 hr_3) (cw_X7_empty hts wi_738 ⟨Nat.le_of_ble_eq_true rfl, Nat.le_of_ble_eq_true rfl⟩) hK hP hD hS [0, 1, 2, 3, 4] [5, 6, 7, 8, 9] rfl rfl rfl (by decide) rfl va_Pnil dj_nil (va_recv hK.1 hP (ci := 5) (q0 := 0) rfl rfl) rfl hl.1 rfl (Nat.le_of_ble_eq_true rfl) dX7_derive_36 ⟨Nat.zero_le _, Nat.zero_le _⟩ (fun H locs hP hD hS => ?_)
    refine lv_iconst (v := 0) hx hb dX7_derive_39 (by decide) ?_
    refine lv_istore_n (lv' := [(3, .int (0 : Int32)), (0, .ref (qM 0)), (1, .int x1), (2, .int x2)]) hx hb dX7_derive_40 rfl hl (by decide) rfl (fun ls hl => ?_)
    exact b_X7_derive_41 qM   C0  fuel r_3 x1 x2 (0 : Int32) H locs ls hP hD hS (lv_sub hl [1, 2, 3, 0] rfl) hf
  · rw [if_neg (c_2)] at hf
    refine lv_iconst (v := 0) hx hb dX7_derive_26 (by decide) ?_
    cases hf
    exact W.iret hx hb hr (fun t ht hW => ⟨⟨_, (), rfl, rfl, toT ht hP⟩, hS.F ht⟩) hS.2.2 dX7_derive_27 hlocks
def f_X7_derive_19 (zM : MdS) (x1 : Int32) (x2 : Int32) : Option (Int32 × MdS) := f_X7_derive_20  zM x1 x2 (1 : Int32)
set_option maxHeartbeats 4000000 in
set_option maxRecDepth 100000 in
theorem b_X7_derive_19 {p : Program} {l : Launch} {e : Env} {s : State} {m : MethodId} {args : Array Value} {below : List Frame} {meth : Method} {c : Code} {G : va_G} {cA : Nat → ClassId} {W9 : va_W} (qM : Nat → Nat) (C0 : Amb p s m args meth c cX7_derive RX7 11 (some .int) G cA (adr W9) []) {res : Int32 × MdS} : ∀ (zM : MdS) (x1 : Int32) (x2 : Int32) (H : Heap) (locs : List Loc) (ls : Array Slot), va_P G vwCl ((wMd cA qM zM)) H → va_D (adr W9) ((wMd cA qM zM)) → va_S (adr W9) s.heap H locs → lv_has ls 11 [(0, .ref (qM 0)), (1, .int x1), (2, .int x2)] → f_X7_derive_19 zM x1 x2 = some res → W p l e rm_X7_derive s m args below meth c H locs 0 0 (MQ below (qWi G W9 ((wMd cA qM res.2)) res.1) args s 0 0 (adr W9)) (F0 m 19 ls [.ref (qM 0)]) := by
  obtain ⟨hx, hb, hr, hml, hown, hts, hlocks, hK, hR, hRA⟩ := id C0
  intro zM x1 x2 H locs ls hP hD hS hl hf
  unfold f_X7_derive_19 at hf
  refine lv_iconst (v := 1) hx hb dX7_derive_19 (by decide) ?_
  exact b_X7_derive_20 qM   C0  zM x1 x2 (1 : Int32) H locs ls hP hD hS (lv_sub hl [0, 1, 2] rfl) hf
def f_X7_derive (zM : MdS) (a1 : Int32) (a2 : Int32) : Option (Int32 × MdS) := (f_X7_isSlot a1).bind fun r_1 => if r_1 = 0 then f_X7_derive_19  zM a1 a2 else (f_X7_isSlot a2).bind fun r_3 => if r_3 = 0 then f_X7_derive_19  zM a1 a2 else f_X7_derive_20  zM a1 a2 (0 : Int32)
set_option maxHeartbeats 4000000 in
set_option maxRecDepth 100000 in
theorem b_X7_derive_0 {p : Program} {l : Launch} {e : Env} {s : State} {m : MethodId} {args : Array Value} {below : List Frame} {meth : Method} {c : Code} {G : va_G} {cA : Nat → ClassId} {W9 : va_W} (qM : Nat → Nat) (C0 : Amb p s m args meth c cX7_derive RX7 11 (some .int) G cA (adr W9) []) {res : Int32 × MdS} : ∀ (zM : MdS) (a1 : Int32) (a2 : Int32) (H : Heap) (locs : List Loc) (ls : Array Slot), va_P G vwCl ((wMd cA qM zM)) H → va_D (adr W9) ((wMd cA qM zM)) → va_S (adr W9) s.heap H locs → lv_has ls 11 [(0, .ref (qM 0)), (1, .int a1), (2, .int a2)] → f_X7_derive zM a1 a2 = some res → W p l e rm_X7_derive s m args below meth c H locs 0 0 (MQ below (qWi G W9 ((wMd cA qM res.2)) res.1) args s 0 0 (adr W9)) (F0 m 0 ls []) := by
  obtain ⟨hx, hb, hr, hml, hown, hts, hlocks, hK, hR, hRA⟩ := id C0
  intro zM a1 a2 H locs ls hP hD hS hl hf
  unfold f_X7_derive at hf
  refine lv_aload_n hx hb dX7_derive_0 rfl (lv_at hl 0 rfl) ?_
  refine lv_iload_n hx hb dX7_derive_1 rfl (lv_at hl 1 rfl) ?_
  obtain ⟨r_1, hr_1, hf⟩ := obd hf
  refine cRiS (As := [.int a1]) (rest := [.ref (qM 0)]) ⟨hx, hb, hml, hown, hts⟩ (m_X7_isSlot l G cA a1 r_1 hr_1) (cw_X7_isSlot hts wi_735 ⟨Nat.le_of_ble_eq_true rfl, Nat.le_of_ble_eq_true rfl⟩) hK va_Pnil rfl hl.1 rfl (Nat.le_of_ble_eq_true rfl) dX7_derive_2 ⟨Nat.zero_le _, Nat.zero_le _⟩ ?_
  refine lv_if_eq (tgt := 19) hx hb dX7_derive_5 (by decide) (fun c_2 => ?_) (fun c_2 => ?_)
  · rw [if_pos (c_2)] at hf
    exact b_X7_derive_19 qM   C0  zM a1 a2 H locs ls hP hD hS (lv_sub hl [0, 1, 2] rfl) hf
  · rw [if_neg (c_2)] at hf
    refine lv_iload_n hx hb dX7_derive_8 rfl (lv_at hl 2 rfl) ?_
    obtain ⟨r_3, hr_3, hf⟩ := obd hf
    refine cRiS (As := [.int a2]) (rest := [.ref (qM 0)]) ⟨hx, hb, hml, hown, hts⟩ (m_X7_isSlot l G cA a2 r_3 hr_3) (cw_X7_isSlot hts wi_735 ⟨Nat.le_of_ble_eq_true rfl, Nat.le_of_ble_eq_true rfl⟩) hK va_Pnil rfl hl.1 rfl (Nat.le_of_ble_eq_true rfl) dX7_derive_9 ⟨Nat.zero_le _, Nat.zero_le _⟩ ?_
    refine lv_if_eq (tgt := 19) hx hb dX7_derive_12 (by decide) (fun c_4 => ?_) (fun c_4 => ?_)
    · rw [if_pos (c_4)] at hf
      exact b_X7_derive_19 qM   C0  zM a1 a2 H locs ls hP hD hS (lv_sub hl [0, 1, 2] rfl) hf
    · rw [if_neg (c_4)] at hf
      refine lv_iconst (v := 0) hx hb dX7_derive_15 (by decide) ?_
      refine lv_goto (tgt := 20) hx hb dX7_derive_16 (by decide) ?_
      exact b_X7_derive_20 qM   C0  zM a1 a2 (0 : Int32) H locs ls hP hD hS (lv_sub hl [0, 1, 2] rfl) hf

set_option maxRecDepth 100000 in
theorem m_X7_derive (l : Launch) (G : va_G) (cA : Nat → ClassId) (qM : Nat → Nat) (zM : MdS) (a1 : Int32) (a2 : Int32) (res : Int32 × MdS) (hf : f_X7_derive zM a1 a2 = some res) : MWi l yX7_derive (.code yX7_derive cX7_derive 11 (some .int) :: wd) rm_X7_derive G cA [.ref (qM 0), .int a1, .int a2] ((wMd cA qM zM)) [] ((wMd cA qM res.2)) res.1 := by
  refine Met.ofW (cc := cX7_derive) (maxL := 11) (ret := (some .int)) (by decide) rfl ?_
  intro p e s m args below meth c s₁ B hml hv
  obtain ⟨rfl, hK, hP, hD0, hR, hRA⟩ := hv
  have C0 : Amb p s m ([.ref (qM 0), .int a1, .int a2] : List Value).toArray meth c cX7_derive RX7 11 (some .int) G cA (adr ((wMd cA qM zM))) [] := ⟨B.exec, B.bytes, B.returns, hml, findClass_of_methodNamed B.named, fun w h => atoms_spec (ws := (.code yX7_derive cX7_derive 11 (some .int) :: wd)) B.pre w (List.mem_cons_of_mem _ h), B.notSynchronized, hK, hR, hRA⟩
  have hl := lv_entry ([.ref (qM 0), .int a1, .int a2]) (n := 11) (Nat.le_of_ble_eq_true rfl)
  rw [lg_entry_eq]
  generalize (lg_sl ([.ref (qM 0), .int a1, .int a2]) ++ List.replicate (11 - (lg_sl ([.ref (qM 0), .int a1, .int a2])).length) Slot.unset).toArray = ls at hl ⊢
  have hl : lv_has ls 11 [(0, .ref (qM 0)), (1, .int a1), (2, .int a2)] := hl
  exact b_X7_derive_0 (W9 := ((wMd cA qM zM))) qM   C0 zM a1 a2 s.heap [] ls hP (adr.self hD0) va_S.rf hl hf
theorem cw_X7_derive {R : Room} {s : State} {args : Array Value} {own : String} {index : Nat} (ht : ∀ w ∈ wd, w.before args s = true) (hlink : Cond.methodLink own index yX7_derive ∈ wd) (hR : rm_X7_derive.frames + 1 ≤ R.frames ∧ 8 + (11 + 11) + rm_X7_derive.locals ≤ R.locals) : CallW R s args own RX7 index yX7_derive cX7_derive 11 (some .int) (.code yX7_derive cX7_derive 11 (some .int) :: wd) rm_X7_derive 0 0 2 := cwV9 2 ht wi_869 wi_867 wi_868 wi_60 hlink (by decide +kernel) rfl rfl hR
def rm_X7_scale : Room := { frames := 1, cells := 0, slots := 0, locals := 29 }
def f_X7_scale_33 (zM : MdS) (x5 : Int64) (x7 : Int64) : Option (MdS) := (f_X7_gcd x5 x7).bind fun r_1 => if ¬ r_1 = 0 then if ¬ r_1 = 0 then some (uM_bottom (uM_top zM (x5 / r_1)) (x7 / r_1)) else none else none
set_option maxHeartbeats 4000000 in
set_option maxRecDepth 100000 in
theorem b_X7_scale_33 {p : Program} {l : Launch} {e : Env} {s : State} {m : MethodId} {args : Array Value} {below : List Frame} {meth : Method} {c : Code} {G : va_G} {cA : Nat → ClassId} {W9 : va_W} (qM : Nat → Nat) (C0 : Amb p s m args meth c cX7_scale RX7 11 none G cA (adr W9) []) {res : MdS} : ∀ (zM : MdS) (x5 : Int64) (x7 : Int64) (H : Heap) (locs : List Loc) (ls : Array Slot), va_P G vwCl ((wMd cA qM zM)) H → va_D (adr W9) ((wMd cA qM zM)) → va_S (adr W9) s.heap H locs → lv_has ls 11 [(0, .ref (qM 0)), (5, .long x5), (7, .long x7)] → f_X7_scale_33 zM x5 x7 = some res → W p l e rm_X7_scale s m args below meth c H locs 0 0 (MQ below (qWv G W9 ((wMd cA qM res))) args s 0 0 (adr W9)) (F0 m 33 ls []) := by
  obtain ⟨hx, hb, hr, hml, hown, hts, hlocks, hK, hR, hRA⟩ := id C0
  intro zM x5 x7 H locs ls hP hD hS hl hf
  unfold f_X7_scale_33 at hf
  refine lv_lload hx hb dX7_scale_33 (lv_at hl 1 rfl) ?_
  refine lv_lload hx hb dX7_scale_35 (lv_at hl 2 rfl) ?_
  obtain ⟨r_1, hr_1, hf⟩ := obd hf
  refine cRlS (As := [.long x5, .long x7]) (rest := []) ⟨hx, hb, hml, hown, hts⟩ (m_X7_gcd l G cA x5 x7 r_1 hr_1) (cw_X7_gcd hts wi_769 ⟨Nat.le_of_ble_eq_true rfl, Nat.le_of_ble_eq_true rfl⟩) hK va_Pnil rfl hl.1 rfl (Nat.le_of_ble_eq_true rfl) dX7_scale_37 ⟨Nat.zero_le _, Nat.zero_le _⟩ ?_
  refine lv_lstore (lv' := [(9, .long r_1), (0, .ref (qM 0)), (5, .long x5), (7, .long x7)]) hx hb dX7_scale_40 hl (by decide) rfl (fun ls hl => ?_)
  refine lv_aload_n hx hb dX7_scale_42 rfl (lv_at hl 1 rfl) ?_
  refine lv_lload hx hb dX7_scale_43 (lv_at hl 2 rfl) ?_
  refine lv_lload hx hb dX7_scale_45 (lv_at hl 0 rfl) ?_
  obtain ⟨hn_2, hf⟩ := oif hf
  refine lv_ldiv hx hb dX7_scale_47 hn_2 ?_
  refine va_put (D := G) (ci := 5) (v := .long (x5 / r_1)) (ty := .long) (C := RX7) (T := TX7) (N := 13) hx hb hts fin_X7 tyX7 tyX7_ok nmX7 hown hK.1 hP hD hS 0 rfl rfl 11 (by decide) (hts _ wi_682) (fun _ h9 => h9) rfl (by decide +kernel) rfl rfl (Nat.le_of_ble_eq_true rfl) dX7_scale_48 (fun H locs hP hD hS => ?_)
  have hP := sM_top_P hP
  have hD := sM_top_D hD
  refine lv_aload_n hx hb dX7_scale_51 rfl (lv_at hl 1 rfl) ?_
  refine lv_lload hx hb dX7_scale_52 (lv_at hl 3 rfl) ?_
  refine lv_lload hx hb dX7_scale_54 (lv_at hl 0 rfl) ?_
  obtain ⟨hn_3, hf⟩ := oif hf
  refine lv_ldiv hx hb dX7_scale_56 hn_3 ?_
  refine va_put (D := G) (ci := 5) (v := .long (x7 / r_1)) (ty := .long) (C := RX7) (T := TX7) (N := 13) hx hb hts fin_X7 tyX7 tyX7_ok nmX7 hown hK.1 hP hD hS 0 rfl rfl 12 (by decide) (hts _ wi_683) (fun _ h9 => h9) rfl (by decide +kernel) rfl rfl (Nat.le_of_ble_eq_true rfl) dX7_scale_57 (fun H locs hP hD hS => ?_)
  have hP := sM_bottom_P hP
  have hD := sM_bottom_D hD
  cases hf
  exact W.vret hx hb hr (fun t ht hW => ⟨⟨(), rfl, trivial, toT ht hP⟩, hS.F ht⟩) hS.2.2 dX7_scale_60 hlocks
def f_X7_scale (zM : MdS) (a1 : Int64) (a3 : Int64) : Option (MdS) := (some (((gM_top zM) * a1))).bind fun y_1 => (some (((gM_bottom zM) * a3))).bind fun y_2 => if (0 : Int64) ≤ y_2 then f_X7_scale_33  zM y_1 y_2 else (some ((-y_1))).bind fun y_4 => (some ((-y_2))).bind fun y_5 => f_X7_scale_33  zM y_4 y_5
set_option maxHeartbeats 4000000 in
set_option maxRecDepth 100000 in
theorem b_X7_scale_0 {p : Program} {l : Launch} {e : Env} {s : State} {m : MethodId} {args : Array Value} {below : List Frame} {meth : Method} {c : Code} {G : va_G} {cA : Nat → ClassId} {W9 : va_W} (qM : Nat → Nat) (C0 : Amb p s m args meth c cX7_scale RX7 11 none G cA (adr W9) []) {res : MdS} : ∀ (zM : MdS) (a1 : Int64) (a3 : Int64) (H : Heap) (locs : List Loc) (ls : Array Slot), va_P G vwCl ((wMd cA qM zM)) H → va_D (adr W9) ((wMd cA qM zM)) → va_S (adr W9) s.heap H locs → lv_has ls 11 [(0, .ref (qM 0)), (1, .long a1), (3, .long a3)] → f_X7_scale zM a1 a3 = some res → W p l e rm_X7_scale s m args below meth c H locs 0 0 (MQ below (qWv G W9 ((wMd cA qM res))) args s 0 0 (adr W9)) (F0 m 0 ls []) := by
  obtain ⟨hx, hb, hr, hml, hown, hts, hlocks, hK, hR, hRA⟩ := id C0
  intro zM a1 a3 H locs ls hP hD hS hl hf
  unfold f_X7_scale at hf
  refine lv_aload_n hx hb dX7_scale_0 rfl (lv_at hl 0 rfl) ?_
  refine va_get (D := G) (ci := 5) (v := .long (gM_top zM)) (C := RX7) (T := TX7) (N := 13) hx hb hts fin_X7 hown hK.1 hP 0 rfl rfl 11 (by decide) (hts _ wi_682) (fun _ h9 => h9) rfl dX7_scale_1 ?_
  refine lv_lload_n hx hb dX7_scale_4 rfl (lv_at hl 1 rfl) ?_
  refine lv_lmul hx hb dX7_scale_5 ?_
  obtain ⟨y_1, hq, hf⟩ := obd hf
  have hy_1 : ((gM_top zM) * a1) = y_1 := Option.some.inj hq
  rw [hy_1]
  refine lv_lstore (lv' := [(5, .long y_1), (0, .ref (qM 0)), (1, .long a1), (3, .long a3)]) hx hb dX7_scale_6 hl (by decide) rfl (fun ls hl => ?_)
  refine lv_aload_n hx hb dX7_scale_8 rfl (lv_at hl 1 rfl) ?_
  refine va_get (D := G) (ci := 5) (v := .long (gM_bottom zM)) (C := RX7) (T := TX7) (N := 13) hx hb hts fin_X7 hown hK.1 hP 0 rfl rfl 12 (by decide) (hts _ wi_683) (fun _ h9 => h9) rfl dX7_scale_9 ?_
  refine lv_lload_n hx hb dX7_scale_12 rfl (lv_at hl 3 rfl) ?_
  refine lv_lmul hx hb dX7_scale_13 ?_
  obtain ⟨y_2, hq, hf⟩ := obd hf
  have hy_2 : ((gM_bottom zM) * a3) = y_2 := Option.some.inj hq
  rw [hy_2]
  refine lv_lstore (lv' := [(7, .long y_2), (5, .long y_1), (0, .ref (qM 0)), (1, .long a1), (3, .long a3)]) hx hb dX7_scale_14 hl (by decide) rfl (fun ls hl => ?_)
  refine lv_lload hx hb dX7_scale_16 (lv_at hl 0 rfl) ?_
  refine lv_lconst (v := (0 : Int64)) hx hb dX7_scale_18 (by decide) ?_
  refine W.lcmp hx hb dX7_scale_19 ?_
  refine lv_if_ge (tgt := 33) hx hb dX7_scale_20 (by decide) (fun c_3 => ?_) (fun c_3 => ?_)
  · rw [if_pos ((lg_cmp_ge _ _).mp c_3)] at hf
    exact b_X7_scale_33 qM   C0  zM y_1 y_2 H locs ls hP hD hS (lv_sub hl [2, 1, 0] rfl) hf
  · rw [if_neg (fun h => c_3 ((lg_cmp_ge _ _).mpr h))] at hf
    refine lv_lload hx hb dX7_scale_23 (lv_at hl 1 rfl) ?_
    refine lv_lneg hx hb dX7_scale_25 ?_
    obtain ⟨y_4, hq, hf⟩ := obd hf
    have hy_4 : (-y_1) = y_4 := Option.some.inj hq
    rw [hy_4]
    refine lv_lstore (lv' := [(5, .long y_4), (7, .long y_2), (0, .ref (qM 0)), (1, .long a1), (3, .long a3)]) hx hb dX7_scale_26 hl (by decide) rfl (fun ls hl => ?_)
    refine lv_lload hx hb dX7_scale_28 (lv_at hl 1 rfl) ?_
    refine lv_lneg hx hb dX7_scale_30 ?_
    obtain ⟨y_5, hq, hf⟩ := obd hf
    have hy_5 : (-y_2) = y_5 := Option.some.inj hq
    rw [hy_5]
    refine lv_lstore (lv' := [(7, .long y_5), (5, .long y_4), (0, .ref (qM 0)), (1, .long a1), (3, .long a3)]) hx hb dX7_scale_31 hl (by decide) rfl (fun ls hl => ?_)
    exact b_X7_scale_33 qM   C0  zM y_4 y_5 H locs ls hP hD hS (lv_sub hl [2, 1, 0] rfl) hf

set_option maxRecDepth 100000 in
theorem m_X7_scale (l : Launch) (G : va_G) (cA : Nat → ClassId) (qM : Nat → Nat) (zM : MdS) (a1 : Int64) (a3 : Int64) (res : MdS) (hf : f_X7_scale zM a1 a3 = some res) : MWv l yX7_scale (.code yX7_scale cX7_scale 11 none :: wd) rm_X7_scale G cA [.ref (qM 0), .long a1, .long a3] ((wMd cA qM zM)) [] ((wMd cA qM res)) := by
  refine Met.ofW (cc := cX7_scale) (maxL := 11) (ret := none) (by decide) rfl ?_
  intro p e s m args below meth c s₁ B hml hv
  obtain ⟨rfl, hK, hP, hD0, hR, hRA⟩ := hv
  have C0 : Amb p s m ([.ref (qM 0), .long a1, .long a3] : List Value).toArray meth c cX7_scale RX7 11 none G cA (adr ((wMd cA qM zM))) [] := ⟨B.exec, B.bytes, B.returns, hml, findClass_of_methodNamed B.named, fun w h => atoms_spec (ws := (.code yX7_scale cX7_scale 11 none :: wd)) B.pre w (List.mem_cons_of_mem _ h), B.notSynchronized, hK, hR, hRA⟩
  have hl := lv_entry ([.ref (qM 0), .long a1, .long a3]) (n := 11) (Nat.le_of_ble_eq_true rfl)
  rw [lg_entry_eq]
  generalize (lg_sl ([.ref (qM 0), .long a1, .long a3]) ++ List.replicate (11 - (lg_sl ([.ref (qM 0), .long a1, .long a3])).length) Slot.unset).toArray = ls at hl ⊢
  have hl : lv_has ls 11 [(0, .ref (qM 0)), (1, .long a1), (3, .long a3)] := hl
  exact b_X7_scale_0 (W9 := ((wMd cA qM zM))) qM   C0 zM a1 a3 s.heap [] ls hP (adr.self hD0) va_S.rf hl hf
theorem cw_X7_scale {R : Room} {s : State} {args : Array Value} {own : String} {index : Nat} (ht : ∀ w ∈ wd, w.before args s = true) (hlink : Cond.methodLink own index yX7_scale ∈ wd) (hR : rm_X7_scale.frames + 1 ≤ R.frames ∧ 8 + (11 + 11) + rm_X7_scale.locals ≤ R.locals) : CallW R s args own RX7 index yX7_scale cX7_scale 11 none (.code yX7_scale cX7_scale 11 none :: wd) rm_X7_scale 0 0 2 := cwV9 2 ht wi_885 wi_884 wi_52 wi_60 hlink (by decide +kernel) rfl rfl hR
def rm_X7_lay : Room := { frames := 2, cells := 0, slots := 0, locals := 68 }
def f_X7_lay (zM : MdS) (a1 : Int32) (a2 : Int32) (a3 : Int32) (a4 : Int64) (a6 : Int64) : Option (MdS) := (some ((gM_top zM))).bind fun y_1 => (some ((gM_bottom zM))).bind fun y_2 => (f_X7_scale zM a4 a6).bind fun r_3 => (f_X7_addTerm r_3 (8 : Int32) a1 a2 a3 (gM_top r_3) (gM_bottom r_3)).bind fun r_4 => some (uM_bottom (uM_top r_4 y_1) y_2)
set_option maxHeartbeats 4000000 in
set_option maxRecDepth 100000 in
theorem b_X7_lay_0 {p : Program} {l : Launch} {e : Env} {s : State} {m : MethodId} {args : Array Value} {below : List Frame} {meth : Method} {c : Code} {G : va_G} {cA : Nat → ClassId} {W9 : va_W} (qM : Nat → Nat) (C0 : Amb p s m args meth c cX7_lay RX7 12 none G cA (adr W9) []) {res : MdS} : ∀ (zM : MdS) (a1 : Int32) (a2 : Int32) (a3 : Int32) (a4 : Int64) (a6 : Int64) (H : Heap) (locs : List Loc) (ls : Array Slot), va_P G vwCl ((wMd cA qM zM)) H → va_D (adr W9) ((wMd cA qM zM)) → va_S (adr W9) s.heap H locs → lv_has ls 12 [(0, .ref (qM 0)), (1, .int a1), (2, .int a2), (3, .int a3), (4, .long a4), (6, .long a6)] → f_X7_lay zM a1 a2 a3 a4 a6 = some res → W p l e rm_X7_lay s m args below meth c H locs 0 0 (MQ below (qWv G W9 ((wMd cA qM res))) args s 0 0 (adr W9)) (F0 m 0 ls []) := by
  obtain ⟨hx, hb, hr, hml, hown, hts, hlocks, hK, hR, hRA⟩ := id C0
  intro zM a1 a2 a3 a4 a6 H locs ls hP hD hS hl hf
  unfold f_X7_lay at hf
  refine lv_aload_n hx hb dX7_lay_0 rfl (lv_at hl 0 rfl) ?_
  refine va_get (D := G) (ci := 5) (v := .long (gM_top zM)) (C := RX7) (T := TX7) (N := 13) hx hb hts fin_X7 hown hK.1 hP 0 rfl rfl 11 (by decide) (hts _ wi_682) (fun _ h9 => h9) rfl dX7_lay_1 ?_
  obtain ⟨y_1, hq, hf⟩ := obd hf
  have hy_1 : (gM_top zM) = y_1 := Option.some.inj hq
  rw [hy_1]
  refine lv_lstore (lv' := [(8, .long y_1), (0, .ref (qM 0)), (1, .int a1), (2, .int a2), (3, .int a3), (4, .long a4), (6, .long a6)]) hx hb dX7_lay_4 hl (by decide) rfl (fun ls hl => ?_)
  refine lv_aload_n hx hb dX7_lay_6 rfl (lv_at hl 1 rfl) ?_
  refine va_get (D := G) (ci := 5) (v := .long (gM_bottom zM)) (C := RX7) (T := TX7) (N := 13) hx hb hts fin_X7 hown hK.1 hP 0 rfl rfl 12 (by decide) (hts _ wi_683) (fun _ h9 => h9) rfl dX7_lay_7 ?_
  obtain ⟨y_2, hq, hf⟩ := obd hf
  have hy_2 : (gM_bottom zM) = y_2 := Option.some.inj hq
  rw [hy_2]
  refine lv_lstore (lv' := [(10, .long y_2), (8, .long y_1), (0, .ref (qM 0)), (1, .int a1), (2, .int a2), (3, .int a3), (4, .long a4), (6, .long a6)]) hx hb dX7_lay_10 hl (by decide) rfl (fun ls hl => ?_)
  refine lv_aload_n hx hb dX7_lay_12 rfl (lv_at hl 2 rfl) ?_
  refine lv_lload hx hb dX7_lay_13 (lv_at hl 6 rfl) ?_
  refine lv_lload hx hb dX7_lay_15 (lv_at hl 7 rfl) ?_
  obtain ⟨r_3, hr_3, hf⟩ := obd hf
  refine cWvV (As := [.long a4, .long a6]) (rest := []) (W1 := ((wMd cA qM r_3))) ⟨hx, hb, hml, hown, hts⟩ (m_X7_scale l G cA qM zM a4 a6 r_3 hr_3) (cw_X7_scale hts wi_882 ⟨Nat.le_of_ble_eq_true rfl, Nat.le_of_ble_eq_true rfl⟩) hK hP hD hS [0, 1, 2, 3, 4] [5, 6, 7, 8, 9] rfl rfl rfl (by decide) rfl va_Pnil dj_nil (va_recv hK.1 hP (ci := 5) (q0 := 0) rfl rfl) rfl hl.1 rfl (Nat.le_of_ble_eq_true rfl) dX7_lay_17 ⟨Nat.zero_le _, Nat.zero_le _⟩ (fun H locs hP hD hS => ?_)
  refine lv_aload_n hx hb dX7_lay_20 rfl (lv_at hl 2 rfl) ?_
  refine lv_bipush (v := (8 : Int32)) hx hb dX7_lay_21 (by decide) ?_
  refine lv_iload_n hx hb dX7_lay_23 rfl (lv_at hl 3 rfl) ?_
  refine lv_iload_n hx hb dX7_lay_24 rfl (lv_at hl 4 rfl) ?_
  refine lv_iload_n hx hb dX7_lay_25 rfl (lv_at hl 5 rfl) ?_
  refine lv_aload_n hx hb dX7_lay_26 rfl (lv_at hl 2 rfl) ?_
  refine va_get (D := G) (ci := 5) (v := .long (gM_top r_3)) (C := RX7) (T := TX7) (N := 13) hx hb hts fin_X7 hown hK.1 hP 0 rfl rfl 11 (by decide) (hts _ wi_682) (fun _ h9 => h9) rfl dX7_lay_27 ?_
  refine lv_aload_n hx hb dX7_lay_30 rfl (lv_at hl 2 rfl) ?_
  refine va_get (D := G) (ci := 5) (v := .long (gM_bottom r_3)) (C := RX7) (T := TX7) (N := 13) hx hb hts fin_X7 hown hK.1 hP 0 rfl rfl 12 (by decide) (hts _ wi_683) (fun _ h9 => h9) rfl dX7_lay_31 ?_
  obtain ⟨r_4, hr_4, hf⟩ := obd hf
  refine cWvV (As := [.int (8 : Int32), .int a1, .int a2, .int a3, .long (gM_top r_3), .long (gM_bottom r_3)]) (rest := []) (W1 := ((wMd cA qM r_4))) ⟨hx, hb, hml, hown, hts⟩ (m_X7_addTerm l G cA qM r_3 (8 : Int32) a1 a2 a3 (gM_top r_3) (gM_bottom r_3) r_4 hr_4) (cw_X7_addTerm hts wi_772 ⟨Nat.le_of_ble_eq_true rfl, Nat.le_of_ble_eq_true rfl⟩) hK hP hD hS [0, 1, 2, 3, 4] [5, 6, 7, 8, 9] rfl rfl rfl (by decide) rfl va_Pnil dj_nil (va_recv hK.1 hP (ci := 5) (q0 := 0) rfl rfl) rfl hl.1 rfl (Nat.le_of_ble_eq_true rfl) dX7_lay_34 ⟨Nat.zero_le _, Nat.zero_le _⟩ (fun H locs hP hD hS => ?_)
  refine lv_aload_n hx hb dX7_lay_37 rfl (lv_at hl 2 rfl) ?_
  refine lv_lload hx hb dX7_lay_38 (lv_at hl 1 rfl) ?_
  refine va_put (D := G) (ci := 5) (v := .long y_1) (ty := .long) (C := RX7) (T := TX7) (N := 13) hx hb hts fin_X7 tyX7 tyX7_ok nmX7 hown hK.1 hP hD hS 0 rfl rfl 11 (by decide) (hts _ wi_682) (fun _ h9 => h9) rfl (by decide +kernel) rfl rfl (Nat.le_of_ble_eq_true rfl) dX7_lay_40 (fun H locs hP hD hS => ?_)
  have hP := sM_top_P hP
  have hD := sM_top_D hD
  refine lv_aload_n hx hb dX7_lay_43 rfl (lv_at hl 2 rfl) ?_
  refine lv_lload hx hb dX7_lay_44 (lv_at hl 0 rfl) ?_
  refine va_put (D := G) (ci := 5) (v := .long y_2) (ty := .long) (C := RX7) (T := TX7) (N := 13) hx hb hts fin_X7 tyX7 tyX7_ok nmX7 hown hK.1 hP hD hS 0 rfl rfl 12 (by decide) (hts _ wi_683) (fun _ h9 => h9) rfl (by decide +kernel) rfl rfl (Nat.le_of_ble_eq_true rfl) dX7_lay_46 (fun H locs hP hD hS => ?_)
  have hP := sM_bottom_P hP
  have hD := sM_bottom_D hD
  cases hf
  exact W.vret hx hb hr (fun t ht hW => ⟨⟨(), rfl, trivial, toT ht hP⟩, hS.F ht⟩) hS.2.2 dX7_lay_49 hlocks

set_option maxRecDepth 100000 in
theorem m_X7_lay (l : Launch) (G : va_G) (cA : Nat → ClassId) (qM : Nat → Nat) (zM : MdS) (a1 : Int32) (a2 : Int32) (a3 : Int32) (a4 : Int64) (a6 : Int64) (res : MdS) (hf : f_X7_lay zM a1 a2 a3 a4 a6 = some res) : MWv l yX7_lay (.code yX7_lay cX7_lay 12 none :: wd) rm_X7_lay G cA [.ref (qM 0), .int a1, .int a2, .int a3, .long a4, .long a6] ((wMd cA qM zM)) [] ((wMd cA qM res)) := by
  refine Met.ofW (cc := cX7_lay) (maxL := 12) (ret := none) (by decide) rfl ?_
  intro p e s m args below meth c s₁ B hml hv
  obtain ⟨rfl, hK, hP, hD0, hR, hRA⟩ := hv
  have C0 : Amb p s m ([.ref (qM 0), .int a1, .int a2, .int a3, .long a4, .long a6] : List Value).toArray meth c cX7_lay RX7 12 none G cA (adr ((wMd cA qM zM))) [] := ⟨B.exec, B.bytes, B.returns, hml, findClass_of_methodNamed B.named, fun w h => atoms_spec (ws := (.code yX7_lay cX7_lay 12 none :: wd)) B.pre w (List.mem_cons_of_mem _ h), B.notSynchronized, hK, hR, hRA⟩
  have hl := lv_entry ([.ref (qM 0), .int a1, .int a2, .int a3, .long a4, .long a6]) (n := 12) (Nat.le_of_ble_eq_true rfl)
  rw [lg_entry_eq]
  generalize (lg_sl ([.ref (qM 0), .int a1, .int a2, .int a3, .long a4, .long a6]) ++ List.replicate (12 - (lg_sl ([.ref (qM 0), .int a1, .int a2, .int a3, .long a4, .long a6])).length) Slot.unset).toArray = ls at hl ⊢
  have hl : lv_has ls 12 [(0, .ref (qM 0)), (1, .int a1), (2, .int a2), (3, .int a3), (4, .long a4), (6, .long a6)] := hl
  exact b_X7_lay_0 (W9 := ((wMd cA qM zM))) qM   C0 zM a1 a2 a3 a4 a6 s.heap [] ls hP (adr.self hD0) va_S.rf hl hf
theorem cw_X7_lay {R : Room} {s : State} {args : Array Value} {own : String} {index : Nat} (ht : ∀ w ∈ wd, w.before args s = true) (hlink : Cond.methodLink own index yX7_lay ∈ wd) (hR : rm_X7_lay.frames + 1 ≤ R.frames ∧ 8 + (12 + 11) + rm_X7_lay.locals ≤ R.locals) : CallW R s args own RX7 index yX7_lay cX7_lay 12 none (.code yX7_lay cX7_lay 12 none :: wd) rm_X7_lay 0 0 5 := cwV9 5 ht wi_881 wi_880 wi_51 wi_60 hlink (by decide +kernel) rfl rfl hR
