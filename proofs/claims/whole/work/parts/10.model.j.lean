def rm_X7_same : Room := { frames := 1, cells := 0, slots := 0, locals := 21 }
def f_X7_same_110 (kb_33 : MdS → Int32 → Int32 → Int32 → Int32 → Option (Int32 × MdS)) (zM : MdS) (x1 : Int32) (x2 : Int32) (x4 : Int32) (v0 : Int32) : Option (Int32 × MdS) := kb_33 zM x1 x2 v0 (x4 + 1)
set_option maxHeartbeats 4000000 in
set_option maxRecDepth 100000 in
theorem b_X7_same_110 {p : Program} {l : Launch} {e : Env} {s : State} {m : MethodId} {args : Array Value} {below : List Frame} {meth : Method} {c : Code} {G : va_G} {cA : Nat → ClassId} {W9 : va_W} (qM : Nat → Nat) (C0 : Amb p s m args meth c cX7_same RX7 5 (some .boolean) G cA (adr W9) []) {res : Int32 × MdS} (kb_33 : MdS → Int32 → Int32 → Int32 → Int32 → Option (Int32 × MdS)) (hkb_33 : ∀ (zM : MdS) (x1 : Int32) (x2 : Int32) (x3 : Int32) (x4 : Int32) (H : Heap) (locs : List Loc) (ls : Array Slot), va_P G vwCl ((wMd cA qM zM)) H → va_D (adr W9) ((wMd cA qM zM)) → va_S (adr W9) s.heap H locs → lv_has ls 5 [(0, .ref (qM 0)), (1, .int x1), (2, .int x2), (3, .int x3), (4, .int x4)] → kb_33 zM x1 x2 x3 x4 = some res → W p l e rm_X7_same s m args below meth c H locs 0 0 (MQ below (qWi G W9 ((wMd cA qM res.2)) res.1) args s 0 0 (adr W9)) (F0 m 33 ls [])) : ∀ (zM : MdS) (x1 : Int32) (x2 : Int32) (x4 : Int32) (v0 : Int32) (H : Heap) (locs : List Loc) (ls : Array Slot), va_P G vwCl ((wMd cA qM zM)) H → va_D (adr W9) ((wMd cA qM zM)) → va_S (adr W9) s.heap H locs → lv_has ls 5 [(0, .ref (qM 0)), (1, .int x1), (2, .int x2), (4, .int x4)] → f_X7_same_110 kb_33 zM x1 x2 x4 v0 = some res → W p l e rm_X7_same s m args below meth c H locs 0 0 (MQ below (qWi G W9 ((wMd cA qM res.2)) res.1) args s 0 0 (adr W9)) (F0 m 110 ls [.int v0]) := by
  obtain ⟨hx, hb, hr, hml, hown, hts, hlocks, hK, hR, hRA⟩ := id C0
  intro zM x1 x2 x4 v0 H locs ls hP hD hS hl hf
  unfold f_X7_same_110 at hf
  refine lv_istore_n (lv' := [(3, .int v0), (0, .ref (qM 0)), (1, .int x1), (2, .int x2), (4, .int x4)]) hx hb dX7_same_110 rfl hl (by decide) rfl (fun ls hl => ?_)
  refine lv_iinc (v := (x4 + 1)) (lv' := [(4, .int (x4 + 1)), (3, .int v0), (0, .ref (qM 0)), (1, .int x1), (2, .int x2)]) hx hb dX7_same_111 hl (k := 4) rfl rfl (by decide) rfl (fun ls hl => ?_)
  refine lv_goto (tgt := 33) hx hb dX7_same_114 (by decide) ?_
  exact hkb_33 zM x1 x2 v0 (x4 + 1) H locs ls hP hD hS (lv_sub hl [2, 3, 4, 1, 0] rfl) hf
def f_X7_same_109 (kb_33 : MdS → Int32 → Int32 → Int32 → Int32 → Option (Int32 × MdS)) (zM : MdS) (x1 : Int32) (x2 : Int32) (x4 : Int32) : Option (Int32 × MdS) := f_X7_same_110 kb_33 zM x1 x2 x4 (0 : Int32)
set_option maxHeartbeats 4000000 in
set_option maxRecDepth 100000 in
theorem b_X7_same_109 {p : Program} {l : Launch} {e : Env} {s : State} {m : MethodId} {args : Array Value} {below : List Frame} {meth : Method} {c : Code} {G : va_G} {cA : Nat → ClassId} {W9 : va_W} (qM : Nat → Nat) (C0 : Amb p s m args meth c cX7_same RX7 5 (some .boolean) G cA (adr W9) []) {res : Int32 × MdS} (kb_33 : MdS → Int32 → Int32 → Int32 → Int32 → Option (Int32 × MdS)) (hkb_33 : ∀ (zM : MdS) (x1 : Int32) (x2 : Int32) (x3 : Int32) (x4 : Int32) (H : Heap) (locs : List Loc) (ls : Array Slot), va_P G vwCl ((wMd cA qM zM)) H → va_D (adr W9) ((wMd cA qM zM)) → va_S (adr W9) s.heap H locs → lv_has ls 5 [(0, .ref (qM 0)), (1, .int x1), (2, .int x2), (3, .int x3), (4, .int x4)] → kb_33 zM x1 x2 x3 x4 = some res → W p l e rm_X7_same s m args below meth c H locs 0 0 (MQ below (qWi G W9 ((wMd cA qM res.2)) res.1) args s 0 0 (adr W9)) (F0 m 33 ls [])) : ∀ (zM : MdS) (x1 : Int32) (x2 : Int32) (x4 : Int32) (H : Heap) (locs : List Loc) (ls : Array Slot), va_P G vwCl ((wMd cA qM zM)) H → va_D (adr W9) ((wMd cA qM zM)) → va_S (adr W9) s.heap H locs → lv_has ls 5 [(0, .ref (qM 0)), (1, .int x1), (2, .int x2), (4, .int x4)] → f_X7_same_109 kb_33 zM x1 x2 x4 = some res → W p l e rm_X7_same s m args below meth c H locs 0 0 (MQ below (qWi G W9 ((wMd cA qM res.2)) res.1) args s 0 0 (adr W9)) (F0 m 109 ls []) := by
  obtain ⟨hx, hb, hr, hml, hown, hts, hlocks, hK, hR, hRA⟩ := id C0
  intro zM x1 x2 x4 H locs ls hP hD hS hl hf
  unfold f_X7_same_109 at hf
  refine lv_iconst (v := 0) hx hb dX7_same_109 (by decide) ?_
  exact b_X7_same_110 qM   C0 kb_33 hkb_33 zM x1 x2 x4 (0 : Int32) H locs ls hP hD hS (lv_sub hl [0, 1, 2, 3] rfl) hf
def f_X7_same_33  : Nat → MdS → Int32 → Int32 → Int32 → Int32 → Option (Int32 × MdS)
  | 0, _, _, _, _, _ => none
  | fu + 1, zM, x1, x2, x3, x4 => if (1150 : Int32) ≤ x4 then if zb x3 = true then some (x3, zM) else none else if x3 = 0 then f_X7_same_109 (fun zM_ x1_ x2_ x3_ x4_ => f_X7_same_33  fu zM_ x1_ x2_ x3_ x4_) zM x1 x2 x4 else if inb (((1150 : Int32) * x1) + x4) nUD = true then if inb (((1150 : Int32) * x2) + x4) nUD = true then if ¬ (gM_up zM (((1150 : Int32) * x1) + x4).toNatClampNeg) = (gM_up zM (((1150 : Int32) * x2) + x4).toNatClampNeg) then f_X7_same_109 (fun zM_ x1_ x2_ x3_ x4_ => f_X7_same_33  fu zM_ x1_ x2_ x3_ x4_) zM x1 x2 x4 else if inb (((1150 : Int32) * x1) + x4) nUD = true then if inb (((1150 : Int32) * x2) + x4) nUD = true then if ¬ (gM_down zM (((1150 : Int32) * x1) + x4).toNatClampNeg) = (gM_down zM (((1150 : Int32) * x2) + x4).toNatClampNeg) then f_X7_same_109 (fun zM_ x1_ x2_ x3_ x4_ => f_X7_same_33  fu zM_ x1_ x2_ x3_ x4_) zM x1 x2 x4 else f_X7_same_110 (fun zM_ x1_ x2_ x3_ x4_ => f_X7_same_33  fu zM_ x1_ x2_ x3_ x4_) zM x1 x2 x4 (1 : Int32) else none else none else none else none
set_option maxHeartbeats 4000000 in
set_option maxRecDepth 100000 in
theorem b_X7_same_33 {p : Program} {l : Launch} {e : Env} {s : State} {m : MethodId} {args : Array Value} {below : List Frame} {meth : Method} {c : Code} {G : va_G} {cA : Nat → ClassId} {W9 : va_W} (qM : Nat → Nat) (C0 : Amb p s m args meth c cX7_same RX7 5 (some .boolean) G cA (adr W9) []) {res : Int32 × MdS} : ∀ (fu : Nat) (zM : MdS) (x1 : Int32) (x2 : Int32) (x3 : Int32) (x4 : Int32) (H : Heap) (locs : List Loc) (ls : Array Slot), va_P G vwCl ((wMd cA qM zM)) H → va_D (adr W9) ((wMd cA qM zM)) → va_S (adr W9) s.heap H locs → lv_has ls 5 [(0, .ref (qM 0)), (1, .int x1), (2, .int x2), (3, .int x3), (4, .int x4)] → f_X7_same_33 fu zM x1 x2 x3 x4 = some res → W p l e rm_X7_same s m args below meth c H locs 0 0 (MQ below (qWi G W9 ((wMd cA qM res.2)) res.1) args s 0 0 (adr W9)) (F0 m 33 ls []) := by
  obtain ⟨hx, hb, hr, hml, hown, hts, hlocks, hK, hR, hRA⟩ := id C0
  intro fu
  induction fu with
  | zero =>
    intro zM x1 x2 x3 x4 H locs ls hP hD hS hl hf
    rw [f_X7_same_33] at hf
    cases hf
  | succ fu ih =>
    intro zM x1 x2 x3 x4 H locs ls hP hD hS hl hf
    rw [f_X7_same_33] at hf
    refine lv_iload hx hb dX7_same_33 (lv_at hl 4 rfl) ?_
    refine lv_sipush (v := (1150 : Int32)) hx hb dX7_same_35 (by decide) ?_
    refine lv_icmp_ge (tgt := 117) hx hb dX7_same_38 (by decide) (fun c_1 => ?_) (fun c_1 => ?_)
    · rw [if_pos (c_1)] at hf
      refine lv_iload_n hx hb dX7_same_117 rfl (lv_at hl 3 rfl) ?_
      obtain ⟨hz_2, hf⟩ := oif hf
      cases hf
      exact W.zret hx hb hr (zb_n hz_2) (fun t ht hW => ⟨⟨_, (), rfl, rfl, toT ht hP⟩, hS.F ht⟩) hS.2.2 dX7_same_118 hlocks
    · rw [if_neg (c_1)] at hf
      refine lv_iload_n hx hb dX7_same_41 rfl (lv_at hl 3 rfl) ?_
      refine lv_if_eq (tgt := 109) hx hb dX7_same_42 (by decide) (fun c_3 => ?_) (fun c_3 => ?_)
      · rw [if_pos (c_3)] at hf
        exact b_X7_same_109 qM   C0 (fun zM_ x1_ x2_ x3_ x4_ => f_X7_same_33  fu zM_ x1_ x2_ x3_ x4_) ih zM x1 x2 x4 H locs ls hP hD hS (lv_sub hl [0, 1, 2, 4] rfl) hf
      · rw [if_neg (c_3)] at hf
        refine lv_aload_n hx hb dX7_same_45 rfl (lv_at hl 0 rfl) ?_
        refine va_get (D := G) (ci := 5) (v := .ref (qM 3)) (C := RX7) (T := TX7) (N := 13) hx hb hts fin_X7 hown hK.1 hP 0 rfl rfl 6 (by decide) (hts _ wi_677) (fun _ h9 => h9) rfl dX7_same_46 ?_
        refine lv_sipush (v := (1150 : Int32)) hx hb dX7_same_49 (by decide) ?_
        refine lv_iload_n hx hb dX7_same_52 rfl (lv_at hl 1 rfl) ?_
        refine lv_imul hx hb dX7_same_53 ?_
        refine lv_iload hx hb dX7_same_54 (lv_at hl 4 rfl) ?_
        refine lv_iadd hx hb dX7_same_56 ?_
        obtain ⟨hi_4, hf⟩ := oif hf
        refine va_lald hx hb hK.1 hP 3 1 rfl rfl (inb_in hi_4) dX7_same_57 ?_
        refine lv_aload_n hx hb dX7_same_58 rfl (lv_at hl 0 rfl) ?_
        refine va_get (D := G) (ci := 5) (v := .ref (qM 3)) (C := RX7) (T := TX7) (N := 13) hx hb hts fin_X7 hown hK.1 hP 0 rfl rfl 6 (by decide) (hts _ wi_677) (fun _ h9 => h9) rfl dX7_same_59 ?_
        refine lv_sipush (v := (1150 : Int32)) hx hb dX7_same_62 (by decide) ?_
        refine lv_iload_n hx hb dX7_same_65 rfl (lv_at hl 2 rfl) ?_
        refine lv_imul hx hb dX7_same_66 ?_
        refine lv_iload hx hb dX7_same_67 (lv_at hl 4 rfl) ?_
        refine lv_iadd hx hb dX7_same_69 ?_
        obtain ⟨hi_5, hf⟩ := oif hf
        refine va_lald hx hb hK.1 hP 3 1 rfl rfl (inb_in hi_5) dX7_same_70 ?_
        refine W.lcmp hx hb dX7_same_71 ?_
        refine lv_if_ne (tgt := 109) hx hb dX7_same_72 (by decide) (fun c_6 => ?_) (fun c_6 => ?_)
        · rw [if_pos (fun h => c_6 ((lg_cmp_eq _ _).mpr h))] at hf
          exact b_X7_same_109 qM   C0 (fun zM_ x1_ x2_ x3_ x4_ => f_X7_same_33  fu zM_ x1_ x2_ x3_ x4_) ih zM x1 x2 x4 H locs ls hP hD hS (lv_sub hl [0, 1, 2, 4] rfl) hf
        · rw [if_neg (fun h => h ((lg_cmp_eq _ _).mp c_6))] at hf
          refine lv_aload_n hx hb dX7_same_75 rfl (lv_at hl 0 rfl) ?_
          refine va_get (D := G) (ci := 5) (v := .ref (qM 4)) (C := RX7) (T := TX7) (N := 13) hx hb hts fin_X7 hown hK.1 hP 0 rfl rfl 7 (by decide) (hts _ wi_678) (fun _ h9 => h9) rfl dX7_same_76 ?_
          refine lv_sipush (v := (1150 : Int32)) hx hb dX7_same_79 (by decide) ?_
          refine lv_iload_n hx hb dX7_same_82 rfl (lv_at hl 1 rfl) ?_
          refine lv_imul hx hb dX7_same_83 ?_
          refine lv_iload hx hb dX7_same_84 (lv_at hl 4 rfl) ?_
          refine lv_iadd hx hb dX7_same_86 ?_
          obtain ⟨hi_7, hf⟩ := oif hf
          refine va_lald hx hb hK.1 hP 4 1 rfl rfl (inb_in hi_7) dX7_same_87 ?_
          refine lv_aload_n hx hb dX7_same_88 rfl (lv_at hl 0 rfl) ?_
          refine va_get (D := G) (ci := 5) (v := .ref (qM 4)) (C := RX7) (T := TX7) (N := 13) hx hb hts fin_X7 hown hK.1 hP 0 rfl rfl 7 (by decide) (hts _ wi_678) (fun _ h9 => h9) rfl dX7_same_89 ?_
          refine lv_sipush (v := (1150 : Int32)) hx hb dX7_same_92 (by decide) ?_
          refine lv_iload_n hx hb dX7_same_95 rfl (lv_at hl 2 rfl) ?_
          refine lv_imul hx hb dX7_same_96 ?_
          refine lv_iload hx hb dX7_same_97 (lv_at hl 4 rfl) ?_
          refine lv_iadd hx hb dX7_same_99 ?_
          obtain ⟨hi_8, hf⟩ := oif hf
          refine va_lald hx hb hK.1 hP 4 1 rfl rfl (inb_in hi_8) dX7_same_100 ?_
          refine W.lcmp hx hb dX7_same_101 ?_
          refine lv_if_ne (tgt := 109) hx hb dX7_same_102 (by decide) (fun c_9 => ?_) (fun c_9 => ?_)
          · rw [if_pos (fun h => c_9 ((lg_cmp_eq _ _).mpr h))] at hf
            exact b_X7_same_109 qM   C0 (fun zM_ x1_ x2_ x3_ x4_ => f_X7_same_33  fu zM_ x1_ x2_ x3_ x4_) ih zM x1 x2 x4 H locs ls hP hD hS (lv_sub hl [0, 1, 2, 4] rfl) hf
          · rw [if_neg (fun h => h ((lg_cmp_eq _ _).mp c_9))] at hf
            refine lv_iconst (v := 1) hx hb dX7_same_105 (by decide) ?_
            refine lv_goto (tgt := 110) hx hb dX7_same_106 (by decide) ?_
            exact b_X7_same_110 qM   C0 (fun zM_ x1_ x2_ x3_ x4_ => f_X7_same_33  fu zM_ x1_ x2_ x3_ x4_) ih zM x1 x2 x4 (1 : Int32) H locs ls hP hD hS (lv_sub hl [0, 1, 2, 4] rfl) hf
def f_X7_same_20 (zM : MdS) (x1 : Int32) (x2 : Int32) (v1 : Int32) : Option (Int32 × MdS) := (f_X7_refused zM v1).bind fun r_1 => if r_1.1 = 0 then f_X7_same_33 fuel r_1.2 x1 x2 (1 : Int32) (0 : Int32) else some ((0 : Int32), r_1.2)
set_option maxHeartbeats 4000000 in
set_option maxRecDepth 100000 in
theorem b_X7_same_20 {p : Program} {l : Launch} {e : Env} {s : State} {m : MethodId} {args : Array Value} {below : List Frame} {meth : Method} {c : Code} {G : va_G} {cA : Nat → ClassId} {W9 : va_W} (qM : Nat → Nat) (C0 : Amb p s m args meth c cX7_same RX7 5 (some .boolean) G cA (adr W9) []) {res : Int32 × MdS} : ∀ (zM : MdS) (x1 : Int32) (x2 : Int32) (v1 : Int32) (H : Heap) (locs : List Loc) (ls : Array Slot), va_P G vwCl ((wMd cA qM zM)) H → va_D (adr W9) ((wMd cA qM zM)) → va_S (adr W9) s.heap H locs → lv_has ls 5 [(0, .ref (qM 0)), (1, .int x1), (2, .int x2)] → f_X7_same_20 zM x1 x2 v1 = some res → W p l e rm_X7_same s m args below meth c H locs 0 0 (MQ below (qWi G W9 ((wMd cA qM res.2)) res.1) args s 0 0 (adr W9)) (F0 m 20 ls [.int v1, .ref (qM 0)]) := by
  obtain ⟨hx, hb, hr, hml, hown, hts, hlocks, hK, hR, hRA⟩ := id C0
  intro zM x1 x2 v1 H locs ls hP hD hS hl hf
  unfold f_X7_same_20 at hf
  obtain ⟨r_1, hr_1, hf⟩ := obd hf
  refine cWiV (As := [.int v1]) (rest := []) (W1 := ((wMd cA qM r_1.2))) ⟨hx, hb, hml, hown, hts⟩ (m_X7_refused l G cA qM zM v1 r_1 hr_1) (cw_X7_refused hts wi_723 ⟨Nat.le_of_ble_eq_true rfl, Nat.le_of_ble_eq_true rfl⟩) hK hP hD hS [0, 1, 2, 3, 4] [5, 6, 7, 8, 9] rfl rfl rfl (by decide) rfl va_Pnil dj_nil (va_recv hK.1 hP (ci := 5) (q0 := 0) rfl rfl) rfl hl.1 rfl (Nat.le_of_ble_eq_true rfl) dX7_same_20 ⟨Nat.zero_le _, Nat.zero_le _⟩ (fun H locs hP hD hS => ?_)
  refine lv_if_eq (tgt := 28) hx hb dX7_same_23 (by decide) (fun c_2 => ?_) (fun c_2 => ?_)
  · rw [if_pos (c_2)] at hf
    refine lv_iconst (v := 1) hx hb dX7_same_28 (by decide) ?_
    refine lv_istore_n (lv' := [(3, .int (1 : Int32)), (0, .ref (qM 0)), (1, .int x1), (2, .int x2)]) hx hb dX7_same_29 rfl hl (by decide) rfl (fun ls hl => ?_)
    refine lv_iconst (v := 0) hx hb dX7_same_30 (by decide) ?_
    refine lv_istore (lv' := [(4, .int (0 : Int32)), (3, .int (1 : Int32)), (0, .ref (qM 0)), (1, .int x1), (2, .int x2)]) hx hb dX7_same_31 hl (by decide) rfl (fun ls hl => ?_)
    exact b_X7_same_33 qM   C0  fuel r_1.2 x1 x2 (1 : Int32) (0 : Int32) H locs ls hP hD hS (lv_sub hl [2, 3, 4, 1, 0] rfl) hf
  · rw [if_neg (c_2)] at hf
    refine lv_iconst (v := 0) hx hb dX7_same_26 (by decide) ?_
    cases hf
    exact W.zret hx hb hr (by decide) (fun t ht hW => ⟨⟨_, (), rfl, rfl, toT ht hP⟩, hS.F ht⟩) hS.2.2 dX7_same_27 hlocks
def f_X7_same_19 (zM : MdS) (x1 : Int32) (x2 : Int32) : Option (Int32 × MdS) := f_X7_same_20  zM x1 x2 (1 : Int32)
set_option maxHeartbeats 4000000 in
set_option maxRecDepth 100000 in
theorem b_X7_same_19 {p : Program} {l : Launch} {e : Env} {s : State} {m : MethodId} {args : Array Value} {below : List Frame} {meth : Method} {c : Code} {G : va_G} {cA : Nat → ClassId} {W9 : va_W} (qM : Nat → Nat) (C0 : Amb p s m args meth c cX7_same RX7 5 (some .boolean) G cA (adr W9) []) {res : Int32 × MdS} : ∀ (zM : MdS) (x1 : Int32) (x2 : Int32) (H : Heap) (locs : List Loc) (ls : Array Slot), va_P G vwCl ((wMd cA qM zM)) H → va_D (adr W9) ((wMd cA qM zM)) → va_S (adr W9) s.heap H locs → lv_has ls 5 [(0, .ref (qM 0)), (1, .int x1), (2, .int x2)] → f_X7_same_19 zM x1 x2 = some res → W p l e rm_X7_same s m args below meth c H locs 0 0 (MQ below (qWi G W9 ((wMd cA qM res.2)) res.1) args s 0 0 (adr W9)) (F0 m 19 ls [.ref (qM 0)]) := by
  obtain ⟨hx, hb, hr, hml, hown, hts, hlocks, hK, hR, hRA⟩ := id C0
  intro zM x1 x2 H locs ls hP hD hS hl hf
  unfold f_X7_same_19 at hf
  refine lv_iconst (v := 1) hx hb dX7_same_19 (by decide) ?_
  exact b_X7_same_20 qM   C0  zM x1 x2 (1 : Int32) H locs ls hP hD hS (lv_sub hl [0, 1, 2] rfl) hf
def f_X7_same (zM : MdS) (a1 : Int32) (a2 : Int32) : Option (Int32 × MdS) := (f_X7_isSlot a1).bind fun r_1 => if r_1 = 0 then f_X7_same_19  zM a1 a2 else (f_X7_isSlot a2).bind fun r_3 => if r_3 = 0 then f_X7_same_19  zM a1 a2 else f_X7_same_20  zM a1 a2 (0 : Int32)
set_option maxHeartbeats 4000000 in
set_option maxRecDepth 100000 in
theorem b_X7_same_0 {p : Program} {l : Launch} {e : Env} {s : State} {m : MethodId} {args : Array Value} {below : List Frame} {meth : Method} {c : Code} {G : va_G} {cA : Nat → ClassId} {W9 : va_W} (qM : Nat → Nat) (C0 : Amb p s m args meth c cX7_same RX7 5 (some .boolean) G cA (adr W9) []) {res : Int32 × MdS} : ∀ (zM : MdS) (a1 : Int32) (a2 : Int32) (H : Heap) (locs : List Loc) (ls : Array Slot), va_P G vwCl ((wMd cA qM zM)) H → va_D (adr W9) ((wMd cA qM zM)) → va_S (adr W9) s.heap H locs → lv_has ls 5 [(0, .ref (qM 0)), (1, .int a1), (2, .int a2)] → f_X7_same zM a1 a2 = some res → W p l e rm_X7_same s m args below meth c H locs 0 0 (MQ below (qWi G W9 ((wMd cA qM res.2)) res.1) args s 0 0 (adr W9)) (F0 m 0 ls []) := by
  obtain ⟨hx, hb, hr, hml, hown, hts, hlocks, hK, hR, hRA⟩ := id C0
  intro zM a1 a2 H locs ls hP hD hS hl hf
  unfold f_X7_same at hf
  refine lv_aload_n hx hb dX7_same_0 rfl (lv_at hl 0 rfl) ?_
  refine lv_iload_n hx hb dX7_same_1 rfl (lv_at hl 1 rfl) ?_
  obtain ⟨r_1, hr_1, hf⟩ := obd hf
  refine cRiS (As := [.int a1]) (rest := [.ref (qM 0)]) ⟨hx, hb, hml, hown, hts⟩ (m_X7_isSlot l G cA a1 r_1 hr_1) (cw_X7_isSlot hts wi_735 ⟨Nat.le_of_ble_eq_true rfl, Nat.le_of_ble_eq_true rfl⟩) hK va_Pnil rfl hl.1 rfl (Nat.le_of_ble_eq_true rfl) dX7_same_2 ⟨Nat.zero_le _, Nat.zero_le _⟩ ?_
  refine lv_if_eq (tgt := 19) hx hb dX7_same_5 (by decide) (fun c_2 => ?_) (fun c_2 => ?_)
  · rw [if_pos (c_2)] at hf
    exact b_X7_same_19 qM   C0  zM a1 a2 H locs ls hP hD hS (lv_sub hl [0, 1, 2] rfl) hf
  · rw [if_neg (c_2)] at hf
    refine lv_iload_n hx hb dX7_same_8 rfl (lv_at hl 2 rfl) ?_
    obtain ⟨r_3, hr_3, hf⟩ := obd hf
    refine cRiS (As := [.int a2]) (rest := [.ref (qM 0)]) ⟨hx, hb, hml, hown, hts⟩ (m_X7_isSlot l G cA a2 r_3 hr_3) (cw_X7_isSlot hts wi_735 ⟨Nat.le_of_ble_eq_true rfl, Nat.le_of_ble_eq_true rfl⟩) hK va_Pnil rfl hl.1 rfl (Nat.le_of_ble_eq_true rfl) dX7_same_9 ⟨Nat.zero_le _, Nat.zero_le _⟩ ?_
    refine lv_if_eq (tgt := 19) hx hb dX7_same_12 (by decide) (fun c_4 => ?_) (fun c_4 => ?_)
    · rw [if_pos (c_4)] at hf
      exact b_X7_same_19 qM   C0  zM a1 a2 H locs ls hP hD hS (lv_sub hl [0, 1, 2] rfl) hf
    · rw [if_neg (c_4)] at hf
      refine lv_iconst (v := 0) hx hb dX7_same_15 (by decide) ?_
      refine lv_goto (tgt := 20) hx hb dX7_same_16 (by decide) ?_
      exact b_X7_same_20 qM   C0  zM a1 a2 (0 : Int32) H locs ls hP hD hS (lv_sub hl [0, 1, 2] rfl) hf

set_option maxRecDepth 100000 in
theorem m_X7_same (l : Launch) (G : va_G) (cA : Nat → ClassId) (qM : Nat → Nat) (zM : MdS) (a1 : Int32) (a2 : Int32) (res : Int32 × MdS) (hf : f_X7_same zM a1 a2 = some res) : MWi l yX7_same (.code yX7_same cX7_same 5 (some .boolean) :: wd) rm_X7_same G cA [.ref (qM 0), .int a1, .int a2] ((wMd cA qM zM)) [] ((wMd cA qM res.2)) res.1 := by
  refine Met.ofW (cc := cX7_same) (maxL := 5) (ret := (some .boolean)) (by decide) rfl ?_
  intro p e s m args below meth c s₁ B hml hv
  obtain ⟨rfl, hK, hP, hD0, hR, hRA⟩ := hv
  have C0 : Amb p s m ([.ref (qM 0), .int a1, .int a2] : List Value).toArray meth c cX7_same RX7 5 (some .boolean) G cA (adr ((wMd cA qM zM))) [] := ⟨B.exec, B.bytes, B.returns, hml, findClass_of_methodNamed B.named, fun w h => atoms_spec (ws := (.code yX7_same cX7_same 5 (some .boolean) :: wd)) B.pre w (List.mem_cons_of_mem _ h), B.notSynchronized, hK, hR, hRA⟩
  have hl := lv_entry ([.ref (qM 0), .int a1, .int a2]) (n := 5) (Nat.le_of_ble_eq_true rfl)
  rw [lg_entry_eq]
  generalize (lg_sl ([.ref (qM 0), .int a1, .int a2]) ++ List.replicate (5 - (lg_sl ([.ref (qM 0), .int a1, .int a2])).length) Slot.unset).toArray = ls at hl ⊢
  have hl : lv_has ls 5 [(0, .ref (qM 0)), (1, .int a1), (2, .int a2)] := hl
  exact b_X7_same_0 (W9 := ((wMd cA qM zM))) qM   C0 zM a1 a2 s.heap [] ls hP (adr.self hD0) va_S.rf hl hf
theorem cw_X7_same {R : Room} {s : State} {args : Array Value} {own : String} {index : Nat} (ht : ∀ w ∈ wd, w.before args s = true) (hlink : Cond.methodLink own index yX7_same ∈ wd) (hR : rm_X7_same.frames + 1 ≤ R.frames ∧ 8 + (5 + 11) + rm_X7_same.locals ≤ R.locals) : CallW R s args own RX7 index yX7_same cX7_same 5 (some .boolean) (.code yX7_same cX7_same 5 (some .boolean) :: wd) rm_X7_same 0 0 2 := cwV9 2 ht wi_894 wi_892 wi_893 wi_60 hlink (by decide +kernel) rfl rfl hR
def rm_X7_terms : Room := { frames := 1, cells := 0, slots := 0, locals := 23 }
def f_X7_terms_13 (zM : MdS) (x1 : Int32) (v1 : Int32) : Option (Int32 × MdS) := (f_X7_refused zM v1).bind fun r_1 => if r_1.1 = 0 then (f_X7_termsOf r_1.2 x1).bind fun r_3 => some (r_3, r_1.2) else some ((0 : Int32), r_1.2)
set_option maxHeartbeats 4000000 in
set_option maxRecDepth 100000 in
theorem b_X7_terms_13 {p : Program} {l : Launch} {e : Env} {s : State} {m : MethodId} {args : Array Value} {below : List Frame} {meth : Method} {c : Code} {G : va_G} {cA : Nat → ClassId} {W9 : va_W} (qM : Nat → Nat) (C0 : Amb p s m args meth c cX7_terms RX7 2 (some .int) G cA (adr W9) []) {res : Int32 × MdS} : ∀ (zM : MdS) (x1 : Int32) (v1 : Int32) (H : Heap) (locs : List Loc) (ls : Array Slot), va_P G vwCl ((wMd cA qM zM)) H → va_D (adr W9) ((wMd cA qM zM)) → va_S (adr W9) s.heap H locs → lv_has ls 2 [(0, .ref (qM 0)), (1, .int x1)] → f_X7_terms_13 zM x1 v1 = some res → W p l e rm_X7_terms s m args below meth c H locs 0 0 (MQ below (qWi G W9 ((wMd cA qM res.2)) res.1) args s 0 0 (adr W9)) (F0 m 13 ls [.int v1, .ref (qM 0)]) := by
  obtain ⟨hx, hb, hr, hml, hown, hts, hlocks, hK, hR, hRA⟩ := id C0
  intro zM x1 v1 H locs ls hP hD hS hl hf
  unfold f_X7_terms_13 at hf
  obtain ⟨r_1, hr_1, hf⟩ := obd hf
  refine cWiV (As := [.int v1]) (rest := []) (W1 := ((wMd cA qM r_1.2))) ⟨hx, hb, hml, hown, hts⟩ (m_X7_refused l G cA qM zM v1 r_1 hr_1) (cw_X7_refused hts wi_723 ⟨Nat.le_of_ble_eq_true rfl, Nat.le_of_ble_eq_true rfl⟩) hK hP hD hS [0, 1, 2, 3, 4] [5, 6, 7, 8, 9] rfl rfl rfl (by decide) rfl va_Pnil dj_nil (va_recv hK.1 hP (ci := 5) (q0 := 0) rfl rfl) rfl hl.1 rfl (Nat.le_of_ble_eq_true rfl) dX7_terms_13 ⟨Nat.zero_le _, Nat.zero_le _⟩ (fun H locs hP hD hS => ?_)
  refine lv_if_eq (tgt := 21) hx hb dX7_terms_16 (by decide) (fun c_2 => ?_) (fun c_2 => ?_)
  · rw [if_pos (c_2)] at hf
    refine lv_aload_n hx hb dX7_terms_21 rfl (lv_at hl 0 rfl) ?_
    refine lv_iload_n hx hb dX7_terms_22 rfl (lv_at hl 1 rfl) ?_
    obtain ⟨r_3, hr_3, hf⟩ := obd hf
    refine cRiV (As := [.int x1]) (rest := []) ⟨hx, hb, hml, hown, hts⟩ (m_X7_termsOf l G cA qM r_1.2 x1 r_3 hr_3) (cw_X7_termsOf hts wi_798 ⟨Nat.le_of_ble_eq_true rfl, Nat.le_of_ble_eq_true rfl⟩) hK (pk hP [0, 1, 2, 3, 4] rfl) (va_recv hK.1 hP (ci := 5) (q0 := 0) rfl rfl) rfl hl.1 rfl (Nat.le_of_ble_eq_true rfl) dX7_terms_23 ⟨Nat.zero_le _, Nat.zero_le _⟩ ?_
    cases hf
    exact W.iret hx hb hr (fun t ht hW => ⟨⟨_, (), rfl, rfl, toT ht hP⟩, hS.F ht⟩) hS.2.2 dX7_terms_26 hlocks
  · rw [if_neg (c_2)] at hf
    refine lv_iconst (v := 0) hx hb dX7_terms_19 (by decide) ?_
    cases hf
    exact W.iret hx hb hr (fun t ht hW => ⟨⟨_, (), rfl, rfl, toT ht hP⟩, hS.F ht⟩) hS.2.2 dX7_terms_20 hlocks
def f_X7_terms (zM : MdS) (a1 : Int32) : Option (Int32 × MdS) := (f_X7_isSlot a1).bind fun r_1 => if r_1 = 0 then f_X7_terms_13  zM a1 (1 : Int32) else f_X7_terms_13  zM a1 (0 : Int32)
set_option maxHeartbeats 4000000 in
set_option maxRecDepth 100000 in
theorem b_X7_terms_0 {p : Program} {l : Launch} {e : Env} {s : State} {m : MethodId} {args : Array Value} {below : List Frame} {meth : Method} {c : Code} {G : va_G} {cA : Nat → ClassId} {W9 : va_W} (qM : Nat → Nat) (C0 : Amb p s m args meth c cX7_terms RX7 2 (some .int) G cA (adr W9) []) {res : Int32 × MdS} : ∀ (zM : MdS) (a1 : Int32) (H : Heap) (locs : List Loc) (ls : Array Slot), va_P G vwCl ((wMd cA qM zM)) H → va_D (adr W9) ((wMd cA qM zM)) → va_S (adr W9) s.heap H locs → lv_has ls 2 [(0, .ref (qM 0)), (1, .int a1)] → f_X7_terms zM a1 = some res → W p l e rm_X7_terms s m args below meth c H locs 0 0 (MQ below (qWi G W9 ((wMd cA qM res.2)) res.1) args s 0 0 (adr W9)) (F0 m 0 ls []) := by
  obtain ⟨hx, hb, hr, hml, hown, hts, hlocks, hK, hR, hRA⟩ := id C0
  intro zM a1 H locs ls hP hD hS hl hf
  unfold f_X7_terms at hf
  refine lv_aload_n hx hb dX7_terms_0 rfl (lv_at hl 0 rfl) ?_
  refine lv_iload_n hx hb dX7_terms_1 rfl (lv_at hl 1 rfl) ?_
  obtain ⟨r_1, hr_1, hf⟩ := obd hf
  refine cRiS (As := [.int a1]) (rest := [.ref (qM 0)]) ⟨hx, hb, hml, hown, hts⟩ (m_X7_isSlot l G cA a1 r_1 hr_1) (cw_X7_isSlot hts wi_735 ⟨Nat.le_of_ble_eq_true rfl, Nat.le_of_ble_eq_true rfl⟩) hK va_Pnil rfl hl.1 rfl (Nat.le_of_ble_eq_true rfl) dX7_terms_2 ⟨Nat.zero_le _, Nat.zero_le _⟩ ?_
  refine lv_if_eq (tgt := 12) hx hb dX7_terms_5 (by decide) (fun c_2 => ?_) (fun c_2 => ?_)
  · rw [if_pos (c_2)] at hf
    refine lv_iconst (v := 1) hx hb dX7_terms_12 (by decide) ?_
    exact b_X7_terms_13 qM   C0  zM a1 (1 : Int32) H locs ls hP hD hS (lv_sub hl [0, 1] rfl) hf
  · rw [if_neg (c_2)] at hf
    refine lv_iconst (v := 0) hx hb dX7_terms_8 (by decide) ?_
    refine lv_goto (tgt := 13) hx hb dX7_terms_9 (by decide) ?_
    exact b_X7_terms_13 qM   C0  zM a1 (0 : Int32) H locs ls hP hD hS (lv_sub hl [0, 1] rfl) hf

set_option maxRecDepth 100000 in
theorem m_X7_terms (l : Launch) (G : va_G) (cA : Nat → ClassId) (qM : Nat → Nat) (zM : MdS) (a1 : Int32) (res : Int32 × MdS) (hf : f_X7_terms zM a1 = some res) : MWi l yX7_terms (.code yX7_terms cX7_terms 2 (some .int) :: wd) rm_X7_terms G cA [.ref (qM 0), .int a1] ((wMd cA qM zM)) [] ((wMd cA qM res.2)) res.1 := by
  refine Met.ofW (cc := cX7_terms) (maxL := 2) (ret := (some .int)) (by decide) rfl ?_
  intro p e s m args below meth c s₁ B hml hv
  obtain ⟨rfl, hK, hP, hD0, hR, hRA⟩ := hv
  have C0 : Amb p s m ([.ref (qM 0), .int a1] : List Value).toArray meth c cX7_terms RX7 2 (some .int) G cA (adr ((wMd cA qM zM))) [] := ⟨B.exec, B.bytes, B.returns, hml, findClass_of_methodNamed B.named, fun w h => atoms_spec (ws := (.code yX7_terms cX7_terms 2 (some .int) :: wd)) B.pre w (List.mem_cons_of_mem _ h), B.notSynchronized, hK, hR, hRA⟩
  have hl := lv_entry ([.ref (qM 0), .int a1]) (n := 2) (Nat.le_of_ble_eq_true rfl)
  rw [lg_entry_eq]
  generalize (lg_sl ([.ref (qM 0), .int a1]) ++ List.replicate (2 - (lg_sl ([.ref (qM 0), .int a1])).length) Slot.unset).toArray = ls at hl ⊢
  have hl : lv_has ls 2 [(0, .ref (qM 0)), (1, .int a1)] := hl
  exact b_X7_terms_0 (W9 := ((wMd cA qM zM))) qM   C0 zM a1 s.heap [] ls hP (adr.self hD0) va_S.rf hl hf
theorem cw_X7_terms {R : Room} {s : State} {args : Array Value} {own : String} {index : Nat} (ht : ∀ w ∈ wd, w.before args s = true) (hlink : Cond.methodLink own index yX7_terms ∈ wd) (hR : rm_X7_terms.frames + 1 ≤ R.frames ∧ 8 + (2 + 11) + rm_X7_terms.locals ≤ R.locals) : CallW R s args own RX7 index yX7_terms cX7_terms 2 (some .int) (.code yX7_terms cX7_terms 2 (some .int) :: wd) rm_X7_terms 0 0 1 := cwV9 1 ht wi_898 wi_896 wi_897 wi_60 hlink (by decide +kernel) rfl rfl hR
def rm_X7_term : Room := { frames := 1, cells := 0, slots := 0, locals := 21 }
def f_X7_term_161 (kb_36 : MdS → Int32 → Int32 → Int32 → Int32 → Int32 → Option (Int64 × MdS)) (kb_51 : MdS → Int32 → Int32 → Int32 → Int32 → Int32 → Int32 → Option (Int64 × MdS)) (zM : MdS) (x1 : Int32) (x2 : Int32) (x3 : Int32) (x4 : Int32) (x5 : Int32) (x6 : Int32) : Option (Int64 × MdS) := kb_51 zM x1 x2 x3 x4 x5 (x6 + (-1))
set_option maxHeartbeats 4000000 in
set_option maxRecDepth 100000 in
theorem b_X7_term_161 {p : Program} {l : Launch} {e : Env} {s : State} {m : MethodId} {args : Array Value} {below : List Frame} {meth : Method} {c : Code} {G : va_G} {cA : Nat → ClassId} {W9 : va_W} (qM : Nat → Nat) (C0 : Amb p s m args meth c cX7_term RX7 8 (some .long) G cA (adr W9) []) {res : Int64 × MdS} (kb_36 : MdS → Int32 → Int32 → Int32 → Int32 → Int32 → Option (Int64 × MdS)) (hkb_36 : ∀ (zM : MdS) (x1 : Int32) (x2 : Int32) (x3 : Int32) (x4 : Int32) (x5 : Int32) (H : Heap) (locs : List Loc) (ls : Array Slot), va_P G vwCl ((wMd cA qM zM)) H → va_D (adr W9) ((wMd cA qM zM)) → va_S (adr W9) s.heap H locs → lv_has ls 8 [(0, .ref (qM 0)), (1, .int x1), (2, .int x2), (3, .int x3), (4, .int x4), (5, .int x5)] → kb_36 zM x1 x2 x3 x4 x5 = some res → W p l e rm_X7_term s m args below meth c H locs 0 0 (MQ below (qWl G W9 ((wMd cA qM res.2)) res.1) args s 0 0 (adr W9)) (F0 m 36 ls [])) (kb_51 : MdS → Int32 → Int32 → Int32 → Int32 → Int32 → Int32 → Option (Int64 × MdS)) (hkb_51 : ∀ (zM : MdS) (x1 : Int32) (x2 : Int32) (x3 : Int32) (x4 : Int32) (x5 : Int32) (x6 : Int32) (H : Heap) (locs : List Loc) (ls : Array Slot), va_P G vwCl ((wMd cA qM zM)) H → va_D (adr W9) ((wMd cA qM zM)) → va_S (adr W9) s.heap H locs → lv_has ls 8 [(0, .ref (qM 0)), (1, .int x1), (2, .int x2), (3, .int x3), (4, .int x4), (5, .int x5), (6, .int x6)] → kb_51 zM x1 x2 x3 x4 x5 x6 = some res → W p l e rm_X7_term s m args below meth c H locs 0 0 (MQ below (qWl G W9 ((wMd cA qM res.2)) res.1) args s 0 0 (adr W9)) (F0 m 51 ls [])) : ∀ (zM : MdS) (x1 : Int32) (x2 : Int32) (x3 : Int32) (x4 : Int32) (x5 : Int32) (x6 : Int32) (H : Heap) (locs : List Loc) (ls : Array Slot), va_P G vwCl ((wMd cA qM zM)) H → va_D (adr W9) ((wMd cA qM zM)) → va_S (adr W9) s.heap H locs → lv_has ls 8 [(0, .ref (qM 0)), (1, .int x1), (2, .int x2), (3, .int x3), (4, .int x4), (5, .int x5), (6, .int x6)] → f_X7_term_161 kb_36 kb_51 zM x1 x2 x3 x4 x5 x6 = some res → W p l e rm_X7_term s m args below meth c H locs 0 0 (MQ below (qWl G W9 ((wMd cA qM res.2)) res.1) args s 0 0 (adr W9)) (F0 m 161 ls []) := by
  obtain ⟨hx, hb, hr, hml, hown, hts, hlocks, hK, hR, hRA⟩ := id C0
  intro zM x1 x2 x3 x4 x5 x6 H locs ls hP hD hS hl hf
  unfold f_X7_term_161 at hf
  refine lv_iinc (v := (x6 + (-1))) (lv' := [(6, .int (x6 + (-1))), (0, .ref (qM 0)), (1, .int x1), (2, .int x2), (3, .int x3), (4, .int x4), (5, .int x5)]) hx hb dX7_term_161 hl (k := 6) rfl rfl (by decide) rfl (fun ls hl => ?_)
  refine lv_goto (tgt := 51) hx hb dX7_term_164 (by decide) ?_
  exact hkb_51 zM x1 x2 x3 x4 x5 (x6 + (-1)) H locs ls hP hD hS (lv_sub hl [1, 2, 3, 4, 5, 6, 0] rfl) hf
def f_X7_term_51 (kb_36 : MdS → Int32 → Int32 → Int32 → Int32 → Int32 → Option (Int64 × MdS)) : Nat → MdS → Int32 → Int32 → Int32 → Int32 → Int32 → Int32 → Option (Int64 × MdS)
  | 0, _, _, _, _, _, _, _ => none
  | fu + 1, zM, x1, x2, x3, x4, x5, x6 => if x6 ≤ (-13 : Int32) then kb_36 zM x1 x2 x3 x4 (x5 + 1) else (some ((((((1150 : Int32) * x1) + ((25 : Int32) * x5)) + x6) + (12 : Int32)))).bind fun y_2 => if inb y_2 nUD = true then if ¬ (gM_up zM y_2.toNatClampNeg) = (0 : Int64) then if ¬ x4 = 0 then f_X7_term_161 kb_36 (fun zM_ x1_ x2_ x3_ x4_ x5_ x6_ => f_X7_term_51 kb_36 fu zM_ x1_ x2_ x3_ x4_ x5_ x6_) zM x1 x2 x3 (x4 + (-1)) x5 x6 else if ¬ x3 = 0 then if ¬ x3 = (1 : Int32) then if ¬ x3 = (2 : Int32) then if ¬ x3 = (3 : Int32) then some (x6.toInt64, zM) else (f_X7_countOf x5).bind fun r_10 => some (r_10.toInt64, zM) else (f_X7_kindOf x5).bind fun r_11 => some (r_11.toInt64, zM) else if inb y_2 nUD = true then some ((gM_down zM y_2.toNatClampNeg), zM) else none else if inb y_2 nUD = true then some ((gM_up zM y_2.toNatClampNeg), zM) else none else f_X7_term_161 kb_36 (fun zM_ x1_ x2_ x3_ x4_ x5_ x6_ => f_X7_term_51 kb_36 fu zM_ x1_ x2_ x3_ x4_ x5_ x6_) zM x1 x2 x3 x4 x5 x6 else none
set_option maxHeartbeats 4000000 in
set_option maxRecDepth 100000 in
theorem b_X7_term_51 {p : Program} {l : Launch} {e : Env} {s : State} {m : MethodId} {args : Array Value} {below : List Frame} {meth : Method} {c : Code} {G : va_G} {cA : Nat → ClassId} {W9 : va_W} (qM : Nat → Nat) (C0 : Amb p s m args meth c cX7_term RX7 8 (some .long) G cA (adr W9) []) {res : Int64 × MdS} (kb_36 : MdS → Int32 → Int32 → Int32 → Int32 → Int32 → Option (Int64 × MdS)) (hkb_36 : ∀ (zM : MdS) (x1 : Int32) (x2 : Int32) (x3 : Int32) (x4 : Int32) (x5 : Int32) (H : Heap) (locs : List Loc) (ls : Array Slot), va_P G vwCl ((wMd cA qM zM)) H → va_D (adr W9) ((wMd cA qM zM)) → va_S (adr W9) s.heap H locs → lv_has ls 8 [(0, .ref (qM 0)), (1, .int x1), (2, .int x2), (3, .int x3), (4, .int x4), (5, .int x5)] → kb_36 zM x1 x2 x3 x4 x5 = some res → W p l e rm_X7_term s m args below meth c H locs 0 0 (MQ below (qWl G W9 ((wMd cA qM res.2)) res.1) args s 0 0 (adr W9)) (F0 m 36 ls [])) : ∀ (fu : Nat) (zM : MdS) (x1 : Int32) (x2 : Int32) (x3 : Int32) (x4 : Int32) (x5 : Int32) (x6 : Int32) (H : Heap) (locs : List Loc) (ls : Array Slot), va_P G vwCl ((wMd cA qM zM)) H → va_D (adr W9) ((wMd cA qM zM)) → va_S (adr W9) s.heap H locs → lv_has ls 8 [(0, .ref (qM 0)), (1, .int x1), (2, .int x2), (3, .int x3), (4, .int x4), (5, .int x5), (6, .int x6)] → f_X7_term_51 kb_36 fu zM x1 x2 x3 x4 x5 x6 = some res → W p l e rm_X7_term s m args below meth c H locs 0 0 (MQ below (qWl G W9 ((wMd cA qM res.2)) res.1) args s 0 0 (adr W9)) (F0 m 51 ls []) := by
  obtain ⟨hx, hb, hr, hml, hown, hts, hlocks, hK, hR, hRA⟩ := id C0
  intro fu
  induction fu with
  | zero =>
    intro zM x1 x2 x3 x4 x5 x6 H locs ls hP hD hS hl hf
    rw [f_X7_term_51] at hf
    cases hf
  | succ fu ih =>
    intro zM x1 x2 x3 x4 x5 x6 H locs ls hP hD hS hl hf
    rw [f_X7_term_51] at hf
    refine lv_iload hx hb dX7_term_51 (lv_at hl 6 rfl) ?_
    refine lv_bipush (v := (-13 : Int32)) hx hb dX7_term_53 (by decide) ?_
    refine lv_icmp_le (tgt := 167) hx hb dX7_term_55 (by decide) (fun c_1 => ?_) (fun c_1 => ?_)
    · rw [if_pos (c_1)] at hf
      refine lv_iinc (v := (x5 + 1)) (lv' := [(5, .int (x5 + 1)), (0, .ref (qM 0)), (1, .int x1), (2, .int x2), (3, .int x3), (4, .int x4), (6, .int x6)]) hx hb dX7_term_167 hl (k := 5) rfl rfl (by decide) rfl (fun ls hl => ?_)
      refine lv_goto (tgt := 36) hx hb dX7_term_170 (by decide) ?_
      exact hkb_36 zM x1 x2 x3 x4 (x5 + 1) H locs ls hP hD hS (lv_sub hl [1, 2, 3, 4, 5, 0] rfl) hf
    · rw [if_neg (c_1)] at hf
      refine lv_sipush (v := (1150 : Int32)) hx hb dX7_term_58 (by decide) ?_
      refine lv_iload_n hx hb dX7_term_61 rfl (lv_at hl 1 rfl) ?_
      refine lv_imul hx hb dX7_term_62 ?_
      refine lv_bipush (v := (25 : Int32)) hx hb dX7_term_63 (by decide) ?_
      refine lv_iload hx hb dX7_term_65 (lv_at hl 5 rfl) ?_
      refine lv_imul hx hb dX7_term_67 ?_
      refine lv_iadd hx hb dX7_term_68 ?_
      refine lv_iload hx hb dX7_term_69 (lv_at hl 6 rfl) ?_
      refine lv_iadd hx hb dX7_term_71 ?_
      refine lv_bipush (v := (12 : Int32)) hx hb dX7_term_72 (by decide) ?_
      refine lv_iadd hx hb dX7_term_74 ?_
      obtain ⟨y_2, hq, hf⟩ := obd hf
      have hy_2 : (((((1150 : Int32) * x1) + ((25 : Int32) * x5)) + x6) + (12 : Int32)) = y_2 := Option.some.inj hq
      rw [hy_2]
      refine lv_istore (lv' := [(7, .int y_2), (0, .ref (qM 0)), (1, .int x1), (2, .int x2), (3, .int x3), (4, .int x4), (5, .int x5), (6, .int x6)]) hx hb dX7_term_75 hl (by decide) rfl (fun ls hl => ?_)
      refine lv_aload_n hx hb dX7_term_77 rfl (lv_at hl 1 rfl) ?_
      refine va_get (D := G) (ci := 5) (v := .ref (qM 3)) (C := RX7) (T := TX7) (N := 13) hx hb hts fin_X7 hown hK.1 hP 0 rfl rfl 6 (by decide) (hts _ wi_677) (fun _ h9 => h9) rfl dX7_term_78 ?_
      refine lv_iload hx hb dX7_term_81 (lv_at hl 0 rfl) ?_
      obtain ⟨hi_3, hf⟩ := oif hf
      refine va_lald hx hb hK.1 hP 3 1 rfl rfl (inb_in hi_3) dX7_term_83 ?_
      refine lv_lconst (v := (0 : Int64)) hx hb dX7_term_84 (by decide) ?_
      refine W.lcmp hx hb dX7_term_85 ?_
      refine lv_if_ne (tgt := 92) hx hb dX7_term_86 (by decide) (fun c_4 => ?_) (fun c_4 => ?_)
      · rw [if_pos (fun h => c_4 ((lg_cmp_eq _ _).mpr h))] at hf
        refine lv_iload hx hb dX7_term_92 (lv_at hl 5 rfl) ?_
        refine lv_if_ne (tgt := 158) hx hb dX7_term_94 (by decide) (fun c_5 => ?_) (fun c_5 => ?_)
        · rw [if_pos (c_5)] at hf
          refine lv_iinc (v := (x4 + (-1))) (lv' := [(4, .int (x4 + (-1))), (7, .int y_2), (0, .ref (qM 0)), (1, .int x1), (2, .int x2), (3, .int x3), (5, .int x5), (6, .int x6)]) hx hb dX7_term_158 hl (k := 5) rfl rfl (by decide) rfl (fun ls hl => ?_)
          exact b_X7_term_161 qM   C0 kb_36 hkb_36 (fun zM_ x1_ x2_ x3_ x4_ x5_ x6_ => f_X7_term_51 kb_36 fu zM_ x1_ x2_ x3_ x4_ x5_ x6_) ih zM x1 x2 x3 (x4 + (-1)) x5 x6 H locs ls hP hD hS (lv_sub hl [2, 3, 4, 5, 0, 6, 7] rfl) hf
        · rw [if_neg (not_not_intro c_5)] at hf
          refine lv_iload_n hx hb dX7_term_97 rfl (lv_at hl 4 rfl) ?_
          refine lv_if_ne (tgt := 111) hx hb dX7_term_98 (by decide) (fun c_6 => ?_) (fun c_6 => ?_)
          · rw [if_pos (c_6)] at hf
            refine lv_iload_n hx hb dX7_term_111 rfl (lv_at hl 4 rfl) ?_
            refine lv_iconst (v := 1) hx hb dX7_term_112 (by decide) ?_
            refine lv_icmp_ne (tgt := 126) hx hb dX7_term_113 (by decide) (fun c_7 => ?_) (fun c_7 => ?_)
            · rw [if_pos (c_7)] at hf
              refine lv_iload_n hx hb dX7_term_126 rfl (lv_at hl 4 rfl) ?_
              refine lv_iconst (v := 2) hx hb dX7_term_127 (by decide) ?_
              refine lv_icmp_ne (tgt := 140) hx hb dX7_term_128 (by decide) (fun c_8 => ?_) (fun c_8 => ?_)
              · rw [if_pos (c_8)] at hf
                refine lv_iload_n hx hb dX7_term_140 rfl (lv_at hl 4 rfl) ?_
                refine lv_iconst (v := 3) hx hb dX7_term_141 (by decide) ?_
                refine lv_icmp_ne (tgt := 154) hx hb dX7_term_142 (by decide) (fun c_9 => ?_) (fun c_9 => ?_)
                · rw [if_pos (c_9)] at hf
                  refine lv_iload hx hb dX7_term_154 (lv_at hl 7 rfl) ?_
                  refine lv_i2l (v := x6.toInt64) hx hb dX7_term_156 rfl ?_
                  cases hf
                  exact W.lret hx hb hr (fun t ht hW => ⟨⟨_, (), rfl, rfl, toT ht hP⟩, hS.F ht⟩) hS.2.2 dX7_term_157 hlocks
                · rw [if_neg (not_not_intro c_9)] at hf
                  refine lv_iload hx hb dX7_term_145 (lv_at hl 6 rfl) ?_
                  obtain ⟨r_10, hr_10, hf⟩ := obd hf
                  refine cRiS (As := [.int x5]) (rest := []) ⟨hx, hb, hml, hown, hts⟩ (m_X7_countOf l G cA x5 r_10 hr_10) (cw_X7_countOf hts wi_836 ⟨Nat.le_of_ble_eq_true rfl, Nat.le_of_ble_eq_true rfl⟩) hK va_Pnil rfl hl.1 rfl (Nat.le_of_ble_eq_true rfl) dX7_term_147 ⟨Nat.zero_le _, Nat.zero_le _⟩ ?_
                  refine lv_i2l (v := r_10.toInt64) hx hb dX7_term_150 rfl ?_
                  refine lv_goto (tgt := 157) hx hb dX7_term_151 (by decide) ?_
                  cases hf
                  exact W.lret hx hb hr (fun t ht hW => ⟨⟨_, (), rfl, rfl, toT ht hP⟩, hS.F ht⟩) hS.2.2 dX7_term_157 hlocks
              · rw [if_neg (not_not_intro c_8)] at hf
                refine lv_iload hx hb dX7_term_131 (lv_at hl 6 rfl) ?_
                obtain ⟨r_11, hr_11, hf⟩ := obd hf
                refine cRiS (As := [.int x5]) (rest := []) ⟨hx, hb, hml, hown, hts⟩ (m_X7_kindOf l G cA x5 r_11 hr_11) (cw_X7_kindOf hts wi_833 ⟨Nat.le_of_ble_eq_true rfl, Nat.le_of_ble_eq_true rfl⟩) hK va_Pnil rfl hl.1 rfl (Nat.le_of_ble_eq_true rfl) dX7_term_133 ⟨Nat.zero_le _, Nat.zero_le _⟩ ?_
                refine lv_i2l (v := r_11.toInt64) hx hb dX7_term_136 rfl ?_
                refine lv_goto (tgt := 157) hx hb dX7_term_137 (by decide) ?_
                cases hf
                exact W.lret hx hb hr (fun t ht hW => ⟨⟨_, (), rfl, rfl, toT ht hP⟩, hS.F ht⟩) hS.2.2 dX7_term_157 hlocks
            · rw [if_neg (not_not_intro c_7)] at hf
              refine lv_aload_n hx hb dX7_term_116 rfl (lv_at hl 1 rfl) ?_
              refine va_get (D := G) (ci := 5) (v := .ref (qM 4)) (C := RX7) (T := TX7) (N := 13) hx hb hts fin_X7 hown hK.1 hP 0 rfl rfl 7 (by decide) (hts _ wi_678) (fun _ h9 => h9) rfl dX7_term_117 ?_
              refine lv_iload hx hb dX7_term_120 (lv_at hl 0 rfl) ?_
              obtain ⟨hi_12, hf⟩ := oif hf
              refine va_lald hx hb hK.1 hP 4 1 rfl rfl (inb_in hi_12) dX7_term_122 ?_
              refine lv_goto (tgt := 157) hx hb dX7_term_123 (by decide) ?_
              cases hf
              exact W.lret hx hb hr (fun t ht hW => ⟨⟨_, (), rfl, rfl, toT ht hP⟩, hS.F ht⟩) hS.2.2 dX7_term_157 hlocks
          · rw [if_neg (not_not_intro c_6)] at hf
            refine lv_aload_n hx hb dX7_term_101 rfl (lv_at hl 1 rfl) ?_
            refine va_get (D := G) (ci := 5) (v := .ref (qM 3)) (C := RX7) (T := TX7) (N := 13) hx hb hts fin_X7 hown hK.1 hP 0 rfl rfl 6 (by decide) (hts _ wi_677) (fun _ h9 => h9) rfl dX7_term_102 ?_
            refine lv_iload hx hb dX7_term_105 (lv_at hl 0 rfl) ?_
            obtain ⟨hi_13, hf⟩ := oif hf
            refine va_lald hx hb hK.1 hP 3 1 rfl rfl (inb_in hi_13) dX7_term_107 ?_
            refine lv_goto (tgt := 157) hx hb dX7_term_108 (by decide) ?_
            cases hf
            exact W.lret hx hb hr (fun t ht hW => ⟨⟨_, (), rfl, rfl, toT ht hP⟩, hS.F ht⟩) hS.2.2 dX7_term_157 hlocks
      · rw [if_neg (fun h => h ((lg_cmp_eq _ _).mp c_4))] at hf
        refine lv_goto (tgt := 161) hx hb dX7_term_89 (by decide) ?_
        exact b_X7_term_161 qM   C0 kb_36 hkb_36 (fun zM_ x1_ x2_ x3_ x4_ x5_ x6_ => f_X7_term_51 kb_36 fu zM_ x1_ x2_ x3_ x4_ x5_ x6_) ih zM x1 x2 x3 x4 x5 x6 H locs ls hP hD hS (lv_sub hl [1, 2, 3, 4, 5, 6, 7] rfl) hf
def f_X7_term_36  : Nat → MdS → Int32 → Int32 → Int32 → Int32 → Int32 → Option (Int64 × MdS)
  | 0, _, _, _, _, _, _ => none
  | fu + 1, zM, x1, x2, x3, x4, x5 => if (46 : Int32) ≤ x5 then some ((0 : Int64), zM) else if x2 < 0 then some ((0 : Int64), zM) else f_X7_term_51 (fun zM_ x1_ x2_ x3_ x4_ x5_ => f_X7_term_36  fu zM_ x1_ x2_ x3_ x4_ x5_) fuel zM x1 x2 x3 x4 x5 (12 : Int32)
set_option maxHeartbeats 4000000 in
set_option maxRecDepth 100000 in
theorem b_X7_term_36 {p : Program} {l : Launch} {e : Env} {s : State} {m : MethodId} {args : Array Value} {below : List Frame} {meth : Method} {c : Code} {G : va_G} {cA : Nat → ClassId} {W9 : va_W} (qM : Nat → Nat) (C0 : Amb p s m args meth c cX7_term RX7 8 (some .long) G cA (adr W9) []) {res : Int64 × MdS} : ∀ (fu : Nat) (zM : MdS) (x1 : Int32) (x2 : Int32) (x3 : Int32) (x4 : Int32) (x5 : Int32) (H : Heap) (locs : List Loc) (ls : Array Slot), va_P G vwCl ((wMd cA qM zM)) H → va_D (adr W9) ((wMd cA qM zM)) → va_S (adr W9) s.heap H locs → lv_has ls 8 [(0, .ref (qM 0)), (1, .int x1), (2, .int x2), (3, .int x3), (4, .int x4), (5, .int x5)] → f_X7_term_36 fu zM x1 x2 x3 x4 x5 = some res → W p l e rm_X7_term s m args below meth c H locs 0 0 (MQ below (qWl G W9 ((wMd cA qM res.2)) res.1) args s 0 0 (adr W9)) (F0 m 36 ls []) := by
  obtain ⟨hx, hb, hr, hml, hown, hts, hlocks, hK, hR, hRA⟩ := id C0
  intro fu
  induction fu with
  | zero =>
    intro zM x1 x2 x3 x4 x5 H locs ls hP hD hS hl hf
    rw [f_X7_term_36] at hf
    cases hf
  | succ fu ih =>
    intro zM x1 x2 x3 x4 x5 H locs ls hP hD hS hl hf
    rw [f_X7_term_36] at hf
    refine lv_iload hx hb dX7_term_36 (lv_at hl 5 rfl) ?_
    refine lv_bipush (v := (46 : Int32)) hx hb dX7_term_38 (by decide) ?_
    refine lv_icmp_ge (tgt := 173) hx hb dX7_term_40 (by decide) (fun c_1 => ?_) (fun c_1 => ?_)
    · rw [if_pos (c_1)] at hf
      refine lv_lconst (v := (0 : Int64)) hx hb dX7_term_173 (by decide) ?_
      cases hf
      exact W.lret hx hb hr (fun t ht hW => ⟨⟨_, (), rfl, rfl, toT ht hP⟩, hS.F ht⟩) hS.2.2 dX7_term_174 hlocks
    · rw [if_neg (c_1)] at hf
      refine lv_iload_n hx hb dX7_term_43 rfl (lv_at hl 2 rfl) ?_
      refine lv_if_lt (tgt := 173) hx hb dX7_term_44 (by decide) (fun c_2 => ?_) (fun c_2 => ?_)
      · rw [if_pos (c_2)] at hf
        refine lv_lconst (v := (0 : Int64)) hx hb dX7_term_173 (by decide) ?_
        cases hf
        exact W.lret hx hb hr (fun t ht hW => ⟨⟨_, (), rfl, rfl, toT ht hP⟩, hS.F ht⟩) hS.2.2 dX7_term_174 hlocks
      · rw [if_neg (c_2)] at hf
        refine lv_bipush (v := (12 : Int32)) hx hb dX7_term_47 (by decide) ?_
        refine lv_istore (lv' := [(6, .int (12 : Int32)), (0, .ref (qM 0)), (1, .int x1), (2, .int x2), (3, .int x3), (4, .int x4), (5, .int x5)]) hx hb dX7_term_49 hl (by decide) rfl (fun ls hl => ?_)
        exact b_X7_term_51 qM   C0 (fun zM_ x1_ x2_ x3_ x4_ x5_ => f_X7_term_36  fu zM_ x1_ x2_ x3_ x4_ x5_) ih fuel zM x1 x2 x3 x4 x5 (12 : Int32) H locs ls hP hD hS (lv_sub hl [1, 2, 3, 4, 5, 6, 0] rfl) hf
def f_X7_term_22 (zM : MdS) (x1 : Int32) (x2 : Int32) (x3 : Int32) (v1 : Int32) : Option (Int64 × MdS) := (f_X7_refused zM v1).bind fun r_1 => if r_1.1 = 0 then f_X7_term_36 fuel r_1.2 x1 x2 x3 x2 (0 : Int32) else some ((0 : Int64), r_1.2)
set_option maxHeartbeats 4000000 in
set_option maxRecDepth 100000 in
theorem b_X7_term_22 {p : Program} {l : Launch} {e : Env} {s : State} {m : MethodId} {args : Array Value} {below : List Frame} {meth : Method} {c : Code} {G : va_G} {cA : Nat → ClassId} {W9 : va_W} (qM : Nat → Nat) (C0 : Amb p s m args meth c cX7_term RX7 8 (some .long) G cA (adr W9) []) {res : Int64 × MdS} : ∀ (zM : MdS) (x1 : Int32) (x2 : Int32) (x3 : Int32) (v1 : Int32) (H : Heap) (locs : List Loc) (ls : Array Slot), va_P G vwCl ((wMd cA qM zM)) H → va_D (adr W9) ((wMd cA qM zM)) → va_S (adr W9) s.heap H locs → lv_has ls 8 [(0, .ref (qM 0)), (1, .int x1), (2, .int x2), (3, .int x3)] → f_X7_term_22 zM x1 x2 x3 v1 = some res → W p l e rm_X7_term s m args below meth c H locs 0 0 (MQ below (qWl G W9 ((wMd cA qM res.2)) res.1) args s 0 0 (adr W9)) (F0 m 22 ls [.int v1, .ref (qM 0)]) := by
  obtain ⟨hx, hb, hr, hml, hown, hts, hlocks, hK, hR, hRA⟩ := id C0
  intro zM x1 x2 x3 v1 H locs ls hP hD hS hl hf
  unfold f_X7_term_22 at hf
  obtain ⟨r_1, hr_1, hf⟩ := obd hf
  refine cWiV (As := [.int v1]) (rest := []) (W1 := ((wMd cA qM r_1.2))) ⟨hx, hb, hml, hown, hts⟩ (m_X7_refused l G cA qM zM v1 r_1 hr_1) (cw_X7_refused hts wi_723 ⟨Nat.le_of_ble_eq_true rfl, Nat.le_of_ble_eq_true rfl⟩) hK hP hD hS [0, 1, 2, 3, 4] [5, 6, 7, 8, 9] rfl rfl rfl (by decide) rfl va_Pnil dj_nil (va_recv hK.1 hP (ci := 5) (q0 := 0) rfl rfl) rfl hl.1 rfl (Nat.le_of_ble_eq_true rfl) dX7_term_22 ⟨Nat.zero_le _, Nat.zero_le _⟩ (fun H locs hP hD hS => ?_)
  refine lv_if_eq (tgt := 30) hx hb dX7_term_25 (by decide) (fun c_2 => ?_) (fun c_2 => ?_)
  · rw [if_pos (c_2)] at hf
    refine lv_iload_n hx hb dX7_term_30 rfl (lv_at hl 2 rfl) ?_
    refine lv_istore (lv' := [(4, .int x2), (0, .ref (qM 0)), (1, .int x1), (2, .int x2), (3, .int x3)]) hx hb dX7_term_31 hl (by decide) rfl (fun ls hl => ?_)
    refine lv_iconst (v := 0) hx hb dX7_term_33 (by decide) ?_
    refine lv_istore (lv' := [(5, .int (0 : Int32)), (4, .int x2), (0, .ref (qM 0)), (1, .int x1), (2, .int x2), (3, .int x3)]) hx hb dX7_term_34 hl (by decide) rfl (fun ls hl => ?_)
    exact b_X7_term_36 qM   C0  fuel r_1.2 x1 x2 x3 x2 (0 : Int32) H locs ls hP hD hS (lv_sub hl [2, 3, 4, 5, 1, 0] rfl) hf
  · rw [if_neg (c_2)] at hf
    refine lv_lconst (v := (0 : Int64)) hx hb dX7_term_28 (by decide) ?_
    cases hf
    exact W.lret hx hb hr (fun t ht hW => ⟨⟨_, (), rfl, rfl, toT ht hP⟩, hS.F ht⟩) hS.2.2 dX7_term_29 hlocks
def f_X7_term_21 (zM : MdS) (x1 : Int32) (x2 : Int32) (x3 : Int32) : Option (Int64 × MdS) := f_X7_term_22  zM x1 x2 x3 (1 : Int32)
set_option maxHeartbeats 4000000 in
set_option maxRecDepth 100000 in
theorem b_X7_term_21 {p : Program} {l : Launch} {e : Env} {s : State} {m : MethodId} {args : Array Value} {below : List Frame} {meth : Method} {c : Code} {G : va_G} {cA : Nat → ClassId} {W9 : va_W} (qM : Nat → Nat) (C0 : Amb p s m args meth c cX7_term RX7 8 (some .long) G cA (adr W9) []) {res : Int64 × MdS} : ∀ (zM : MdS) (x1 : Int32) (x2 : Int32) (x3 : Int32) (H : Heap) (locs : List Loc) (ls : Array Slot), va_P G vwCl ((wMd cA qM zM)) H → va_D (adr W9) ((wMd cA qM zM)) → va_S (adr W9) s.heap H locs → lv_has ls 8 [(0, .ref (qM 0)), (1, .int x1), (2, .int x2), (3, .int x3)] → f_X7_term_21 zM x1 x2 x3 = some res → W p l e rm_X7_term s m args below meth c H locs 0 0 (MQ below (qWl G W9 ((wMd cA qM res.2)) res.1) args s 0 0 (adr W9)) (F0 m 21 ls [.ref (qM 0)]) := by
  obtain ⟨hx, hb, hr, hml, hown, hts, hlocks, hK, hR, hRA⟩ := id C0
  intro zM x1 x2 x3 H locs ls hP hD hS hl hf
  unfold f_X7_term_21 at hf
  refine lv_iconst (v := 1) hx hb dX7_term_21 (by decide) ?_
  exact b_X7_term_22 qM   C0  zM x1 x2 x3 (1 : Int32) H locs ls hP hD hS (lv_sub hl [0, 1, 2, 3] rfl) hf
def f_X7_term (zM : MdS) (a1 : Int32) (a2 : Int32) (a3 : Int32) : Option (Int64 × MdS) := (f_X7_isSlot a1).bind fun r_1 => if r_1 = 0 then f_X7_term_21  zM a1 a2 a3 else if a3 < 0 then f_X7_term_21  zM a1 a2 a3 else if (4 : Int32) < a3 then f_X7_term_21  zM a1 a2 a3 else f_X7_term_22  zM a1 a2 a3 (0 : Int32)
set_option maxHeartbeats 4000000 in
set_option maxRecDepth 100000 in
theorem b_X7_term_0 {p : Program} {l : Launch} {e : Env} {s : State} {m : MethodId} {args : Array Value} {below : List Frame} {meth : Method} {c : Code} {G : va_G} {cA : Nat → ClassId} {W9 : va_W} (qM : Nat → Nat) (C0 : Amb p s m args meth c cX7_term RX7 8 (some .long) G cA (adr W9) []) {res : Int64 × MdS} : ∀ (zM : MdS) (a1 : Int32) (a2 : Int32) (a3 : Int32) (H : Heap) (locs : List Loc) (ls : Array Slot), va_P G vwCl ((wMd cA qM zM)) H → va_D (adr W9) ((wMd cA qM zM)) → va_S (adr W9) s.heap H locs → lv_has ls 8 [(0, .ref (qM 0)), (1, .int a1), (2, .int a2), (3, .int a3)] → f_X7_term zM a1 a2 a3 = some res → W p l e rm_X7_term s m args below meth c H locs 0 0 (MQ below (qWl G W9 ((wMd cA qM res.2)) res.1) args s 0 0 (adr W9)) (F0 m 0 ls []) := by
  obtain ⟨hx, hb, hr, hml, hown, hts, hlocks, hK, hR, hRA⟩ := id C0
  intro zM a1 a2 a3 H locs ls hP hD hS hl hf
  unfold f_X7_term at hf
  refine lv_aload_n hx hb dX7_term_0 rfl (lv_at hl 0 rfl) ?_
  refine lv_iload_n hx hb dX7_term_1 rfl (lv_at hl 1 rfl) ?_
  obtain ⟨r_1, hr_1, hf⟩ := obd hf
  refine cRiS (As := [.int a1]) (rest := [.ref (qM 0)]) ⟨hx, hb, hml, hown, hts⟩ (m_X7_isSlot l G cA a1 r_1 hr_1) (cw_X7_isSlot hts wi_735 ⟨Nat.le_of_ble_eq_true rfl, Nat.le_of_ble_eq_true rfl⟩) hK va_Pnil rfl hl.1 rfl (Nat.le_of_ble_eq_true rfl) dX7_term_2 ⟨Nat.zero_le _, Nat.zero_le _⟩ ?_
  refine lv_if_eq (tgt := 21) hx hb dX7_term_5 (by decide) (fun c_2 => ?_) (fun c_2 => ?_)
  · rw [if_pos (c_2)] at hf
    exact b_X7_term_21 qM   C0  zM a1 a2 a3 H locs ls hP hD hS (lv_sub hl [0, 1, 2, 3] rfl) hf
  · rw [if_neg (c_2)] at hf
    refine lv_iload_n hx hb dX7_term_8 rfl (lv_at hl 3 rfl) ?_
    refine lv_if_lt (tgt := 21) hx hb dX7_term_9 (by decide) (fun c_3 => ?_) (fun c_3 => ?_)
    · rw [if_pos (c_3)] at hf
      exact b_X7_term_21 qM   C0  zM a1 a2 a3 H locs ls hP hD hS (lv_sub hl [0, 1, 2, 3] rfl) hf
    · rw [if_neg (c_3)] at hf
      refine lv_iload_n hx hb dX7_term_12 rfl (lv_at hl 3 rfl) ?_
      refine lv_iconst (v := 4) hx hb dX7_term_13 (by decide) ?_
      refine lv_icmp_gt (tgt := 21) hx hb dX7_term_14 (by decide) (fun c_4 => ?_) (fun c_4 => ?_)
      · rw [if_pos (c_4)] at hf
        exact b_X7_term_21 qM   C0  zM a1 a2 a3 H locs ls hP hD hS (lv_sub hl [0, 1, 2, 3] rfl) hf
      · rw [if_neg (c_4)] at hf
        refine lv_iconst (v := 0) hx hb dX7_term_17 (by decide) ?_
        refine lv_goto (tgt := 22) hx hb dX7_term_18 (by decide) ?_
        exact b_X7_term_22 qM   C0  zM a1 a2 a3 (0 : Int32) H locs ls hP hD hS (lv_sub hl [0, 1, 2, 3] rfl) hf

set_option maxRecDepth 100000 in
theorem m_X7_term (l : Launch) (G : va_G) (cA : Nat → ClassId) (qM : Nat → Nat) (zM : MdS) (a1 : Int32) (a2 : Int32) (a3 : Int32) (res : Int64 × MdS) (hf : f_X7_term zM a1 a2 a3 = some res) : MWl l yX7_term (.code yX7_term cX7_term 8 (some .long) :: wd) rm_X7_term G cA [.ref (qM 0), .int a1, .int a2, .int a3] ((wMd cA qM zM)) [] ((wMd cA qM res.2)) res.1 := by
  refine Met.ofW (cc := cX7_term) (maxL := 8) (ret := (some .long)) (by decide) rfl ?_
  intro p e s m args below meth c s₁ B hml hv
  obtain ⟨rfl, hK, hP, hD0, hR, hRA⟩ := hv
  have C0 : Amb p s m ([.ref (qM 0), .int a1, .int a2, .int a3] : List Value).toArray meth c cX7_term RX7 8 (some .long) G cA (adr ((wMd cA qM zM))) [] := ⟨B.exec, B.bytes, B.returns, hml, findClass_of_methodNamed B.named, fun w h => atoms_spec (ws := (.code yX7_term cX7_term 8 (some .long) :: wd)) B.pre w (List.mem_cons_of_mem _ h), B.notSynchronized, hK, hR, hRA⟩
  have hl := lv_entry ([.ref (qM 0), .int a1, .int a2, .int a3]) (n := 8) (Nat.le_of_ble_eq_true rfl)
  rw [lg_entry_eq]
  generalize (lg_sl ([.ref (qM 0), .int a1, .int a2, .int a3]) ++ List.replicate (8 - (lg_sl ([.ref (qM 0), .int a1, .int a2, .int a3])).length) Slot.unset).toArray = ls at hl ⊢
  have hl : lv_has ls 8 [(0, .ref (qM 0)), (1, .int a1), (2, .int a2), (3, .int a3)] := hl
  exact b_X7_term_0 (W9 := ((wMd cA qM zM))) qM   C0 zM a1 a2 a3 s.heap [] ls hP (adr.self hD0) va_S.rf hl hf
theorem cw_X7_term {R : Room} {s : State} {args : Array Value} {own : String} {index : Nat} (ht : ∀ w ∈ wd, w.before args s = true) (hlink : Cond.methodLink own index yX7_term ∈ wd) (hR : rm_X7_term.frames + 1 ≤ R.frames ∧ 8 + (8 + 11) + rm_X7_term.locals ≤ R.locals) : CallW R s args own RX7 index yX7_term cX7_term 8 (some .long) (.code yX7_term cX7_term 8 (some .long) :: wd) rm_X7_term 0 0 3 := cwV9 3 ht wi_902 wi_900 wi_901 wi_60 hlink (by decide +kernel) rfl rfl hR
