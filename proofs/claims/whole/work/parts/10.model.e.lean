def rm_X7_read : Room := { frames := 4, cells := 0, slots := 0, locals := 99 }
def f_X7_read_159 (zM : MdS) (x1 : Int32) : Option (Int32 × MdS) := if (gM_fault zM) = 0 then (f_X7_finish zM x1).bind fun r_2 => some (r_2.1, r_2.2) else some ((gM_fault zM), zM)
set_option maxHeartbeats 4000000 in
set_option maxRecDepth 100000 in
theorem b_X7_read_159 {p : Program} {l : Launch} {e : Env} {s : State} {m : MethodId} {args : Array Value} {below : List Frame} {meth : Method} {c : Code} {G : va_G} {cA : Nat → ClassId} {W9 : va_W} (qM : Nat → Nat) (C0 : Amb p s m args meth c cX7_read RX7 4 (some .int) G cA (adr W9) []) {res : Int32 × MdS} : ∀ (zM : MdS) (x1 : Int32) (H : Heap) (locs : List Loc) (ls : Array Slot), va_P G vwCl ((wMd cA qM zM)) H → va_D (adr W9) ((wMd cA qM zM)) → va_S (adr W9) s.heap H locs → lv_has ls 4 [(0, .ref (qM 0)), (1, .int x1)] → f_X7_read_159 zM x1 = some res → W p l e rm_X7_read s m args below meth c H locs 0 0 (MQ below (qWi G W9 ((wMd cA qM res.2)) res.1) args s 0 0 (adr W9)) (F0 m 159 ls []) := by
  obtain ⟨hx, hb, hr, hml, hown, hts, hlocks, hK, hR, hRA⟩ := id C0
  intro zM x1 H locs ls hP hD hS hl hf
  unfold f_X7_read_159 at hf
  refine lv_aload_n hx hb dX7_read_159 rfl (lv_at hl 0 rfl) ?_
  refine va_get (D := G) (ci := 5) (v := .int (gM_fault zM)) (C := RX7) (T := TX7) (N := 13) hx hb hts fin_X7 hown hK.1 hP 0 rfl rfl 10 (by decide) (hts _ wi_681) (fun _ h9 => h9) rfl dX7_read_160 ?_
  refine lv_if_eq (tgt := 173) hx hb dX7_read_163 (by decide) (fun c_1 => ?_) (fun c_1 => ?_)
  · rw [if_pos (c_1)] at hf
    refine lv_aload_n hx hb dX7_read_173 rfl (lv_at hl 0 rfl) ?_
    refine lv_iload_n hx hb dX7_read_174 rfl (lv_at hl 1 rfl) ?_
    obtain ⟨r_2, hr_2, hf⟩ := obd hf
    refine cWiV (As := [.int x1]) (rest := []) (W1 := ((wMd cA qM r_2.2))) ⟨hx, hb, hml, hown, hts⟩ (m_X7_finish l G cA qM zM x1 r_2 hr_2) (cw_X7_finish hts wi_790 ⟨Nat.le_of_ble_eq_true rfl, Nat.le_of_ble_eq_true rfl⟩) hK hP hD hS [0, 1, 2, 3, 4] [5, 6, 7, 8, 9] rfl rfl rfl (by decide) rfl va_Pnil dj_nil (va_recv hK.1 hP (ci := 5) (q0 := 0) rfl rfl) rfl hl.1 rfl (Nat.le_of_ble_eq_true rfl) dX7_read_175 ⟨Nat.zero_le _, Nat.zero_le _⟩ (fun H locs hP hD hS => ?_)
    cases hf
    exact W.iret hx hb hr (fun t ht hW => ⟨⟨_, (), rfl, rfl, toT ht hP⟩, hS.F ht⟩) hS.2.2 dX7_read_178 hlocks
  · rw [if_neg (c_1)] at hf
    refine lv_aload_n hx hb dX7_read_166 rfl (lv_at hl 0 rfl) ?_
    refine va_get (D := G) (ci := 5) (v := .int (gM_fault zM)) (C := RX7) (T := TX7) (N := 13) hx hb hts fin_X7 hown hK.1 hP 0 rfl rfl 10 (by decide) (hts _ wi_681) (fun _ h9 => h9) rfl dX7_read_167 ?_
    refine lv_goto (tgt := 178) hx hb dX7_read_170 (by decide) ?_
    cases hf
    exact W.iret hx hb hr (fun t ht hW => ⟨⟨_, (), rfl, rfl, toT ht hP⟩, hS.F ht⟩) hS.2.2 dX7_read_178 hlocks
def f_X7_read_117 (kb_56 : MdS → Int32 → Int32 → Int32 → Option (Int32 × MdS)) (zM : MdS) (x1 : Int32) (x2 : Int32) (v0 : Int32) : Option (Int32 × MdS) := if v0 = 0 then kb_56 zM x1 x2 v0 else kb_56 (uM_at zM ((gM_at zM) + (1 : Int32))) x1 x2 v0
set_option maxHeartbeats 4000000 in
set_option maxRecDepth 100000 in
theorem b_X7_read_117 {p : Program} {l : Launch} {e : Env} {s : State} {m : MethodId} {args : Array Value} {below : List Frame} {meth : Method} {c : Code} {G : va_G} {cA : Nat → ClassId} {W9 : va_W} (qM : Nat → Nat) (C0 : Amb p s m args meth c cX7_read RX7 4 (some .int) G cA (adr W9) []) {res : Int32 × MdS} (kb_56 : MdS → Int32 → Int32 → Int32 → Option (Int32 × MdS)) (hkb_56 : ∀ (zM : MdS) (x1 : Int32) (x2 : Int32) (x3 : Int32) (H : Heap) (locs : List Loc) (ls : Array Slot), va_P G vwCl ((wMd cA qM zM)) H → va_D (adr W9) ((wMd cA qM zM)) → va_S (adr W9) s.heap H locs → lv_has ls 4 [(0, .ref (qM 0)), (1, .int x1), (2, .int x2), (3, .int x3)] → kb_56 zM x1 x2 x3 = some res → W p l e rm_X7_read s m args below meth c H locs 0 0 (MQ below (qWi G W9 ((wMd cA qM res.2)) res.1) args s 0 0 (adr W9)) (F0 m 56 ls [])) : ∀ (zM : MdS) (x1 : Int32) (x2 : Int32) (v0 : Int32) (H : Heap) (locs : List Loc) (ls : Array Slot), va_P G vwCl ((wMd cA qM zM)) H → va_D (adr W9) ((wMd cA qM zM)) → va_S (adr W9) s.heap H locs → lv_has ls 4 [(0, .ref (qM 0)), (1, .int x1), (2, .int x2)] → f_X7_read_117 kb_56 zM x1 x2 v0 = some res → W p l e rm_X7_read s m args below meth c H locs 0 0 (MQ below (qWi G W9 ((wMd cA qM res.2)) res.1) args s 0 0 (adr W9)) (F0 m 117 ls [.int v0]) := by
  obtain ⟨hx, hb, hr, hml, hown, hts, hlocks, hK, hR, hRA⟩ := id C0
  intro zM x1 x2 v0 H locs ls hP hD hS hl hf
  unfold f_X7_read_117 at hf
  refine lv_istore_n (lv' := [(3, .int v0), (0, .ref (qM 0)), (1, .int x1), (2, .int x2)]) hx hb dX7_read_117 rfl hl (by decide) rfl (fun ls hl => ?_)
  refine lv_iload_n hx hb dX7_read_118 rfl (lv_at hl 0 rfl) ?_
  refine lv_if_eq (tgt := 56) hx hb dX7_read_119 (by decide) (fun c_1 => ?_) (fun c_1 => ?_)
  · rw [if_pos (c_1)] at hf
    exact hkb_56 zM x1 x2 v0 H locs ls hP hD hS (lv_sub hl [1, 2, 3, 0] rfl) hf
  · rw [if_neg (c_1)] at hf
    refine lv_aload_n hx hb dX7_read_122 rfl (lv_at hl 1 rfl) ?_
    refine lv_dup hx hb dX7_read_123 rfl ?_
    refine va_get (D := G) (ci := 5) (v := .int (gM_at zM)) (C := RX7) (T := TX7) (N := 13) hx hb hts fin_X7 hown hK.1 hP 0 rfl rfl 9 (by decide) (hts _ wi_680) (fun _ h9 => h9) rfl dX7_read_124 ?_
    refine lv_iconst (v := 1) hx hb dX7_read_127 (by decide) ?_
    refine lv_iadd hx hb dX7_read_128 ?_
    refine va_put (D := G) (ci := 5) (v := .int ((gM_at zM) + (1 : Int32))) (ty := .int) (C := RX7) (T := TX7) (N := 13) hx hb hts fin_X7 tyX7 tyX7_ok nmX7 hown hK.1 hP hD hS 0 rfl rfl 9 (by decide) (hts _ wi_680) (fun _ h9 => h9) rfl (by decide +kernel) rfl rfl (Nat.le_of_ble_eq_true rfl) dX7_read_129 (fun H locs hP hD hS => ?_)
    have hP := sM_at_P hP
    have hD := sM_at_D hD
    refine lv_goto (tgt := 56) hx hb dX7_read_132 (by decide) ?_
    exact hkb_56 (uM_at zM ((gM_at zM) + (1 : Int32))) x1 x2 v0 H locs ls hP hD hS (lv_sub hl [1, 2, 3, 0] rfl) hf
def f_X7_read_116 (kb_56 : MdS → Int32 → Int32 → Int32 → Option (Int32 × MdS)) (zM : MdS) (x1 : Int32) (x2 : Int32) : Option (Int32 × MdS) := f_X7_read_117 kb_56 zM x1 x2 (0 : Int32)
set_option maxHeartbeats 4000000 in
set_option maxRecDepth 100000 in
theorem b_X7_read_116 {p : Program} {l : Launch} {e : Env} {s : State} {m : MethodId} {args : Array Value} {below : List Frame} {meth : Method} {c : Code} {G : va_G} {cA : Nat → ClassId} {W9 : va_W} (qM : Nat → Nat) (C0 : Amb p s m args meth c cX7_read RX7 4 (some .int) G cA (adr W9) []) {res : Int32 × MdS} (kb_56 : MdS → Int32 → Int32 → Int32 → Option (Int32 × MdS)) (hkb_56 : ∀ (zM : MdS) (x1 : Int32) (x2 : Int32) (x3 : Int32) (H : Heap) (locs : List Loc) (ls : Array Slot), va_P G vwCl ((wMd cA qM zM)) H → va_D (adr W9) ((wMd cA qM zM)) → va_S (adr W9) s.heap H locs → lv_has ls 4 [(0, .ref (qM 0)), (1, .int x1), (2, .int x2), (3, .int x3)] → kb_56 zM x1 x2 x3 = some res → W p l e rm_X7_read s m args below meth c H locs 0 0 (MQ below (qWi G W9 ((wMd cA qM res.2)) res.1) args s 0 0 (adr W9)) (F0 m 56 ls [])) : ∀ (zM : MdS) (x1 : Int32) (x2 : Int32) (H : Heap) (locs : List Loc) (ls : Array Slot), va_P G vwCl ((wMd cA qM zM)) H → va_D (adr W9) ((wMd cA qM zM)) → va_S (adr W9) s.heap H locs → lv_has ls 4 [(0, .ref (qM 0)), (1, .int x1), (2, .int x2)] → f_X7_read_116 kb_56 zM x1 x2 = some res → W p l e rm_X7_read s m args below meth c H locs 0 0 (MQ below (qWi G W9 ((wMd cA qM res.2)) res.1) args s 0 0 (adr W9)) (F0 m 116 ls []) := by
  obtain ⟨hx, hb, hr, hml, hown, hts, hlocks, hK, hR, hRA⟩ := id C0
  intro zM x1 x2 H locs ls hP hD hS hl hf
  unfold f_X7_read_116 at hf
  refine lv_iconst (v := 0) hx hb dX7_read_116 (by decide) ?_
  exact b_X7_read_117 qM   C0 kb_56 hkb_56 zM x1 x2 (0 : Int32) H locs ls hP hD hS (lv_sub hl [0, 1, 2] rfl) hf
def f_X7_read_112 (kb_56 : MdS → Int32 → Int32 → Int32 → Option (Int32 × MdS)) (zM : MdS) (x1 : Int32) (x2 : Int32) : Option (Int32 × MdS) := f_X7_read_117 kb_56 zM x1 x2 (1 : Int32)
set_option maxHeartbeats 4000000 in
set_option maxRecDepth 100000 in
theorem b_X7_read_112 {p : Program} {l : Launch} {e : Env} {s : State} {m : MethodId} {args : Array Value} {below : List Frame} {meth : Method} {c : Code} {G : va_G} {cA : Nat → ClassId} {W9 : va_W} (qM : Nat → Nat) (C0 : Amb p s m args meth c cX7_read RX7 4 (some .int) G cA (adr W9) []) {res : Int32 × MdS} (kb_56 : MdS → Int32 → Int32 → Int32 → Option (Int32 × MdS)) (hkb_56 : ∀ (zM : MdS) (x1 : Int32) (x2 : Int32) (x3 : Int32) (H : Heap) (locs : List Loc) (ls : Array Slot), va_P G vwCl ((wMd cA qM zM)) H → va_D (adr W9) ((wMd cA qM zM)) → va_S (adr W9) s.heap H locs → lv_has ls 4 [(0, .ref (qM 0)), (1, .int x1), (2, .int x2), (3, .int x3)] → kb_56 zM x1 x2 x3 = some res → W p l e rm_X7_read s m args below meth c H locs 0 0 (MQ below (qWi G W9 ((wMd cA qM res.2)) res.1) args s 0 0 (adr W9)) (F0 m 56 ls [])) : ∀ (zM : MdS) (x1 : Int32) (x2 : Int32) (H : Heap) (locs : List Loc) (ls : Array Slot), va_P G vwCl ((wMd cA qM zM)) H → va_D (adr W9) ((wMd cA qM zM)) → va_S (adr W9) s.heap H locs → lv_has ls 4 [(0, .ref (qM 0)), (1, .int x1), (2, .int x2)] → f_X7_read_112 kb_56 zM x1 x2 = some res → W p l e rm_X7_read s m args below meth c H locs 0 0 (MQ below (qWi G W9 ((wMd cA qM res.2)) res.1) args s 0 0 (adr W9)) (F0 m 112 ls []) := by
  obtain ⟨hx, hb, hr, hml, hown, hts, hlocks, hK, hR, hRA⟩ := id C0
  intro zM x1 x2 H locs ls hP hD hS hl hf
  unfold f_X7_read_112 at hf
  refine lv_iconst (v := 1) hx hb dX7_read_112 (by decide) ?_
  refine lv_goto (tgt := 117) hx hb dX7_read_113 (by decide) ?_
  exact b_X7_read_117 qM   C0 kb_56 hkb_56 zM x1 x2 (1 : Int32) H locs ls hP hD hS (lv_sub hl [0, 1, 2] rfl) hf
def f_X7_read_86 (kb_56 : MdS → Int32 → Int32 → Int32 → Option (Int32 × MdS)) (zM : MdS) (x1 : Int32) (v0 : Int32) : Option (Int32 × MdS) := if ¬ (gM_fault zM) = 0 then f_X7_read_116 kb_56 zM x1 v0 else (f_X7_next zM).bind fun r_2 => if r_2.1 = (43 : Int32) then f_X7_read_112 kb_56 r_2.2 x1 v0 else (f_X7_next r_2.2).bind fun r_4 => if ¬ r_4.1 = (45 : Int32) then f_X7_read_116 kb_56 r_4.2 x1 v0 else f_X7_read_112 kb_56 r_4.2 x1 v0
set_option maxHeartbeats 4000000 in
set_option maxRecDepth 100000 in
theorem b_X7_read_86 {p : Program} {l : Launch} {e : Env} {s : State} {m : MethodId} {args : Array Value} {below : List Frame} {meth : Method} {c : Code} {G : va_G} {cA : Nat → ClassId} {W9 : va_W} (qM : Nat → Nat) (C0 : Amb p s m args meth c cX7_read RX7 4 (some .int) G cA (adr W9) []) {res : Int32 × MdS} (kb_56 : MdS → Int32 → Int32 → Int32 → Option (Int32 × MdS)) (hkb_56 : ∀ (zM : MdS) (x1 : Int32) (x2 : Int32) (x3 : Int32) (H : Heap) (locs : List Loc) (ls : Array Slot), va_P G vwCl ((wMd cA qM zM)) H → va_D (adr W9) ((wMd cA qM zM)) → va_S (adr W9) s.heap H locs → lv_has ls 4 [(0, .ref (qM 0)), (1, .int x1), (2, .int x2), (3, .int x3)] → kb_56 zM x1 x2 x3 = some res → W p l e rm_X7_read s m args below meth c H locs 0 0 (MQ below (qWi G W9 ((wMd cA qM res.2)) res.1) args s 0 0 (adr W9)) (F0 m 56 ls [])) : ∀ (zM : MdS) (x1 : Int32) (v0 : Int32) (H : Heap) (locs : List Loc) (ls : Array Slot), va_P G vwCl ((wMd cA qM zM)) H → va_D (adr W9) ((wMd cA qM zM)) → va_S (adr W9) s.heap H locs → lv_has ls 4 [(0, .ref (qM 0)), (1, .int x1)] → f_X7_read_86 kb_56 zM x1 v0 = some res → W p l e rm_X7_read s m args below meth c H locs 0 0 (MQ below (qWi G W9 ((wMd cA qM res.2)) res.1) args s 0 0 (adr W9)) (F0 m 86 ls [.int v0]) := by
  obtain ⟨hx, hb, hr, hml, hown, hts, hlocks, hK, hR, hRA⟩ := id C0
  intro zM x1 v0 H locs ls hP hD hS hl hf
  unfold f_X7_read_86 at hf
  refine lv_istore_n (lv' := [(2, .int v0), (0, .ref (qM 0)), (1, .int x1)]) hx hb dX7_read_86 rfl hl (by decide) rfl (fun ls hl => ?_)
  refine lv_aload_n hx hb dX7_read_87 rfl (lv_at hl 1 rfl) ?_
  refine va_get (D := G) (ci := 5) (v := .int (gM_fault zM)) (C := RX7) (T := TX7) (N := 13) hx hb hts fin_X7 hown hK.1 hP 0 rfl rfl 10 (by decide) (hts _ wi_681) (fun _ h9 => h9) rfl dX7_read_88 ?_
  refine lv_if_ne (tgt := 116) hx hb dX7_read_91 (by decide) (fun c_1 => ?_) (fun c_1 => ?_)
  · rw [if_pos (c_1)] at hf
    exact b_X7_read_116 qM   C0 kb_56 hkb_56 zM x1 v0 H locs ls hP hD hS (lv_sub hl [1, 2, 0] rfl) hf
  · rw [if_neg (not_not_intro c_1)] at hf
    refine lv_aload_n hx hb dX7_read_94 rfl (lv_at hl 1 rfl) ?_
    obtain ⟨r_2, hr_2, hf⟩ := obd hf
    refine cWiV (As := []) (rest := []) (W1 := ((wMd cA qM r_2.2))) ⟨hx, hb, hml, hown, hts⟩ (m_X7_next l G cA qM zM r_2 hr_2) (cw_X7_next hts wi_746 ⟨Nat.le_of_ble_eq_true rfl, Nat.le_of_ble_eq_true rfl⟩) hK hP hD hS [0, 1, 2, 3, 4] [5, 6, 7, 8, 9] rfl rfl rfl (by decide) rfl va_Pnil dj_nil (va_recv hK.1 hP (ci := 5) (q0 := 0) rfl rfl) rfl hl.1 rfl (Nat.le_of_ble_eq_true rfl) dX7_read_95 ⟨Nat.zero_le _, Nat.zero_le _⟩ (fun H locs hP hD hS => ?_)
    refine lv_bipush (v := (43 : Int32)) hx hb dX7_read_98 (by decide) ?_
    refine lv_icmp_eq (tgt := 112) hx hb dX7_read_100 (by decide) (fun c_3 => ?_) (fun c_3 => ?_)
    · rw [if_pos (c_3)] at hf
      exact b_X7_read_112 qM   C0 kb_56 hkb_56 r_2.2 x1 v0 H locs ls hP hD hS (lv_sub hl [1, 2, 0] rfl) hf
    · rw [if_neg (c_3)] at hf
      refine lv_aload_n hx hb dX7_read_103 rfl (lv_at hl 1 rfl) ?_
      obtain ⟨r_4, hr_4, hf⟩ := obd hf
      refine cWiV (As := []) (rest := []) (W1 := ((wMd cA qM r_4.2))) ⟨hx, hb, hml, hown, hts⟩ (m_X7_next l G cA qM r_2.2 r_4 hr_4) (cw_X7_next hts wi_746 ⟨Nat.le_of_ble_eq_true rfl, Nat.le_of_ble_eq_true rfl⟩) hK hP hD hS [0, 1, 2, 3, 4] [5, 6, 7, 8, 9] rfl rfl rfl (by decide) rfl va_Pnil dj_nil (va_recv hK.1 hP (ci := 5) (q0 := 0) rfl rfl) rfl hl.1 rfl (Nat.le_of_ble_eq_true rfl) dX7_read_104 ⟨Nat.zero_le _, Nat.zero_le _⟩ (fun H locs hP hD hS => ?_)
      refine lv_bipush (v := (45 : Int32)) hx hb dX7_read_107 (by decide) ?_
      refine lv_icmp_ne (tgt := 116) hx hb dX7_read_109 (by decide) (fun c_5 => ?_) (fun c_5 => ?_)
      · rw [if_pos (c_5)] at hf
        exact b_X7_read_116 qM   C0 kb_56 hkb_56 r_4.2 x1 v0 H locs ls hP hD hS (lv_sub hl [1, 2, 0] rfl) hf
      · rw [if_neg (not_not_intro c_5)] at hf
        exact b_X7_read_112 qM   C0 kb_56 hkb_56 r_4.2 x1 v0 H locs ls hP hD hS (lv_sub hl [1, 2, 0] rfl) hf
def f_X7_read_85 (kb_56 : MdS → Int32 → Int32 → Int32 → Option (Int32 × MdS)) (zM : MdS) (x1 : Int32) : Option (Int32 × MdS) := f_X7_read_86 kb_56 zM x1 (0 : Int32)
set_option maxHeartbeats 4000000 in
set_option maxRecDepth 100000 in
theorem b_X7_read_85 {p : Program} {l : Launch} {e : Env} {s : State} {m : MethodId} {args : Array Value} {below : List Frame} {meth : Method} {c : Code} {G : va_G} {cA : Nat → ClassId} {W9 : va_W} (qM : Nat → Nat) (C0 : Amb p s m args meth c cX7_read RX7 4 (some .int) G cA (adr W9) []) {res : Int32 × MdS} (kb_56 : MdS → Int32 → Int32 → Int32 → Option (Int32 × MdS)) (hkb_56 : ∀ (zM : MdS) (x1 : Int32) (x2 : Int32) (x3 : Int32) (H : Heap) (locs : List Loc) (ls : Array Slot), va_P G vwCl ((wMd cA qM zM)) H → va_D (adr W9) ((wMd cA qM zM)) → va_S (adr W9) s.heap H locs → lv_has ls 4 [(0, .ref (qM 0)), (1, .int x1), (2, .int x2), (3, .int x3)] → kb_56 zM x1 x2 x3 = some res → W p l e rm_X7_read s m args below meth c H locs 0 0 (MQ below (qWi G W9 ((wMd cA qM res.2)) res.1) args s 0 0 (adr W9)) (F0 m 56 ls [])) : ∀ (zM : MdS) (x1 : Int32) (H : Heap) (locs : List Loc) (ls : Array Slot), va_P G vwCl ((wMd cA qM zM)) H → va_D (adr W9) ((wMd cA qM zM)) → va_S (adr W9) s.heap H locs → lv_has ls 4 [(0, .ref (qM 0)), (1, .int x1)] → f_X7_read_85 kb_56 zM x1 = some res → W p l e rm_X7_read s m args below meth c H locs 0 0 (MQ below (qWi G W9 ((wMd cA qM res.2)) res.1) args s 0 0 (adr W9)) (F0 m 85 ls []) := by
  obtain ⟨hx, hb, hr, hml, hown, hts, hlocks, hK, hR, hRA⟩ := id C0
  intro zM x1 H locs ls hP hD hS hl hf
  unfold f_X7_read_85 at hf
  refine lv_iconst (v := 0) hx hb dX7_read_85 (by decide) ?_
  exact b_X7_read_86 qM   C0 kb_56 hkb_56 zM x1 (0 : Int32) H locs ls hP hD hS (lv_sub hl [0, 1] rfl) hf
def f_X7_read_56  : Nat → MdS → Int32 → Int32 → Int32 → Option (Int32 × MdS)
  | 0, _, _, _, _ => none
  | fu + 1, zM, x1, x2, x3 => if x3 = 0 then if ¬ (gM_fault zM) = 0 then f_X7_read_159  zM x1 else (f_X7_next zM).bind fun r_3 => if r_3.1 = 0 then f_X7_read_159  r_3.2 x1 else (f_X7_wrong r_3.2 (-2 : Int32) (gM_at r_3.2)).bind fun r_5 => f_X7_read_159  r_5 x1 else (f_X7_readTerm zM x2).bind fun r_6 => if ¬ (gM_fault r_6) = 0 then f_X7_read_85 (fun zM_ x1_ x2_ x3_ => f_X7_read_56  fu zM_ x1_ x2_ x3_) r_6 x1 else (f_X7_next r_6).bind fun r_8 => if ¬ r_8.1 = (45 : Int32) then f_X7_read_85 (fun zM_ x1_ x2_ x3_ => f_X7_read_56  fu zM_ x1_ x2_ x3_) r_8.2 x1 else f_X7_read_86 (fun zM_ x1_ x2_ x3_ => f_X7_read_56  fu zM_ x1_ x2_ x3_) r_8.2 x1 (1 : Int32)
set_option maxHeartbeats 4000000 in
set_option maxRecDepth 100000 in
theorem b_X7_read_56 {p : Program} {l : Launch} {e : Env} {s : State} {m : MethodId} {args : Array Value} {below : List Frame} {meth : Method} {c : Code} {G : va_G} {cA : Nat → ClassId} {W9 : va_W} (qM : Nat → Nat) (C0 : Amb p s m args meth c cX7_read RX7 4 (some .int) G cA (adr W9) []) {res : Int32 × MdS} : ∀ (fu : Nat) (zM : MdS) (x1 : Int32) (x2 : Int32) (x3 : Int32) (H : Heap) (locs : List Loc) (ls : Array Slot), va_P G vwCl ((wMd cA qM zM)) H → va_D (adr W9) ((wMd cA qM zM)) → va_S (adr W9) s.heap H locs → lv_has ls 4 [(0, .ref (qM 0)), (1, .int x1), (2, .int x2), (3, .int x3)] → f_X7_read_56 fu zM x1 x2 x3 = some res → W p l e rm_X7_read s m args below meth c H locs 0 0 (MQ below (qWi G W9 ((wMd cA qM res.2)) res.1) args s 0 0 (adr W9)) (F0 m 56 ls []) := by
  obtain ⟨hx, hb, hr, hml, hown, hts, hlocks, hK, hR, hRA⟩ := id C0
  intro fu
  induction fu with
  | zero =>
    intro zM x1 x2 x3 H locs ls hP hD hS hl hf
    rw [f_X7_read_56] at hf
    cases hf
  | succ fu ih =>
    intro zM x1 x2 x3 H locs ls hP hD hS hl hf
    rw [f_X7_read_56] at hf
    refine lv_iload_n hx hb dX7_read_56 rfl (lv_at hl 3 rfl) ?_
    refine lv_if_eq (tgt := 135) hx hb dX7_read_57 (by decide) (fun c_1 => ?_) (fun c_1 => ?_)
    · rw [if_pos (c_1)] at hf
      refine lv_aload_n hx hb dX7_read_135 rfl (lv_at hl 0 rfl) ?_
      refine va_get (D := G) (ci := 5) (v := .int (gM_fault zM)) (C := RX7) (T := TX7) (N := 13) hx hb hts fin_X7 hown hK.1 hP 0 rfl rfl 10 (by decide) (hts _ wi_681) (fun _ h9 => h9) rfl dX7_read_136 ?_
      refine lv_if_ne (tgt := 159) hx hb dX7_read_139 (by decide) (fun c_2 => ?_) (fun c_2 => ?_)
      · rw [if_pos (c_2)] at hf
        exact b_X7_read_159 qM   C0  zM x1 H locs ls hP hD hS (lv_sub hl [0, 1] rfl) hf
      · rw [if_neg (not_not_intro c_2)] at hf
        refine lv_aload_n hx hb dX7_read_142 rfl (lv_at hl 0 rfl) ?_
        obtain ⟨r_3, hr_3, hf⟩ := obd hf
        refine cWiV (As := []) (rest := []) (W1 := ((wMd cA qM r_3.2))) ⟨hx, hb, hml, hown, hts⟩ (m_X7_next l G cA qM zM r_3 hr_3) (cw_X7_next hts wi_746 ⟨Nat.le_of_ble_eq_true rfl, Nat.le_of_ble_eq_true rfl⟩) hK hP hD hS [0, 1, 2, 3, 4] [5, 6, 7, 8, 9] rfl rfl rfl (by decide) rfl va_Pnil dj_nil (va_recv hK.1 hP (ci := 5) (q0 := 0) rfl rfl) rfl hl.1 rfl (Nat.le_of_ble_eq_true rfl) dX7_read_143 ⟨Nat.zero_le _, Nat.zero_le _⟩ (fun H locs hP hD hS => ?_)
        refine lv_if_eq (tgt := 159) hx hb dX7_read_146 (by decide) (fun c_4 => ?_) (fun c_4 => ?_)
        · rw [if_pos (c_4)] at hf
          exact b_X7_read_159 qM   C0  r_3.2 x1 H locs ls hP hD hS (lv_sub hl [0, 1] rfl) hf
        · rw [if_neg (c_4)] at hf
          refine lv_aload_n hx hb dX7_read_149 rfl (lv_at hl 0 rfl) ?_
          refine lv_bipush (v := (-2 : Int32)) hx hb dX7_read_150 (by decide) ?_
          refine lv_aload_n hx hb dX7_read_152 rfl (lv_at hl 0 rfl) ?_
          refine va_get (D := G) (ci := 5) (v := .int (gM_at r_3.2)) (C := RX7) (T := TX7) (N := 13) hx hb hts fin_X7 hown hK.1 hP 0 rfl rfl 9 (by decide) (hts _ wi_680) (fun _ h9 => h9) rfl dX7_read_153 ?_
          obtain ⟨r_5, hr_5, hf⟩ := obd hf
          refine cWvV (As := [.int (-2 : Int32), .int (gM_at r_3.2)]) (rest := []) (W1 := ((wMd cA qM r_5))) ⟨hx, hb, hml, hown, hts⟩ (m_X7_wrong l G cA qM r_3.2 (-2 : Int32) (gM_at r_3.2) r_5 hr_5) (cw_X7_wrong hts wi_761 ⟨Nat.le_of_ble_eq_true rfl, Nat.le_of_ble_eq_true rfl⟩) hK hP hD hS [0, 1, 2, 3, 4] [5, 6, 7, 8, 9] rfl rfl rfl (by decide) rfl va_Pnil dj_nil (va_recv hK.1 hP (ci := 5) (q0 := 0) rfl rfl) rfl hl.1 rfl (Nat.le_of_ble_eq_true rfl) dX7_read_156 ⟨Nat.zero_le _, Nat.zero_le _⟩ (fun H locs hP hD hS => ?_)
          exact b_X7_read_159 qM   C0  r_5 x1 H locs ls hP hD hS (lv_sub hl [0, 1] rfl) hf
    · rw [if_neg (c_1)] at hf
      refine lv_aload_n hx hb dX7_read_60 rfl (lv_at hl 0 rfl) ?_
      refine lv_iload_n hx hb dX7_read_61 rfl (lv_at hl 2 rfl) ?_
      obtain ⟨r_6, hr_6, hf⟩ := obd hf
      refine cWvV (As := [.int x2]) (rest := []) (W1 := ((wMd cA qM r_6))) ⟨hx, hb, hml, hown, hts⟩ (m_X7_readTerm l G cA qM zM x2 r_6 hr_6) (cw_X7_readTerm hts wi_750 ⟨Nat.le_of_ble_eq_true rfl, Nat.le_of_ble_eq_true rfl⟩) hK hP hD hS [0, 1, 2, 3, 4] [5, 6, 7, 8, 9] rfl rfl rfl (by decide) rfl va_Pnil dj_nil (va_recv hK.1 hP (ci := 5) (q0 := 0) rfl rfl) rfl hl.1 rfl (Nat.le_of_ble_eq_true rfl) dX7_read_62 ⟨Nat.zero_le _, Nat.zero_le _⟩ (fun H locs hP hD hS => ?_)
      refine lv_aload_n hx hb dX7_read_65 rfl (lv_at hl 0 rfl) ?_
      refine va_get (D := G) (ci := 5) (v := .int (gM_fault r_6)) (C := RX7) (T := TX7) (N := 13) hx hb hts fin_X7 hown hK.1 hP 0 rfl rfl 10 (by decide) (hts _ wi_681) (fun _ h9 => h9) rfl dX7_read_66 ?_
      refine lv_if_ne (tgt := 85) hx hb dX7_read_69 (by decide) (fun c_7 => ?_) (fun c_7 => ?_)
      · rw [if_pos (c_7)] at hf
        exact b_X7_read_85 qM   C0 (fun zM_ x1_ x2_ x3_ => f_X7_read_56  fu zM_ x1_ x2_ x3_) ih r_6 x1 H locs ls hP hD hS (lv_sub hl [0, 1] rfl) hf
      · rw [if_neg (not_not_intro c_7)] at hf
        refine lv_aload_n hx hb dX7_read_72 rfl (lv_at hl 0 rfl) ?_
        obtain ⟨r_8, hr_8, hf⟩ := obd hf
        refine cWiV (As := []) (rest := []) (W1 := ((wMd cA qM r_8.2))) ⟨hx, hb, hml, hown, hts⟩ (m_X7_next l G cA qM r_6 r_8 hr_8) (cw_X7_next hts wi_746 ⟨Nat.le_of_ble_eq_true rfl, Nat.le_of_ble_eq_true rfl⟩) hK hP hD hS [0, 1, 2, 3, 4] [5, 6, 7, 8, 9] rfl rfl rfl (by decide) rfl va_Pnil dj_nil (va_recv hK.1 hP (ci := 5) (q0 := 0) rfl rfl) rfl hl.1 rfl (Nat.le_of_ble_eq_true rfl) dX7_read_73 ⟨Nat.zero_le _, Nat.zero_le _⟩ (fun H locs hP hD hS => ?_)
        refine lv_bipush (v := (45 : Int32)) hx hb dX7_read_76 (by decide) ?_
        refine lv_icmp_ne (tgt := 85) hx hb dX7_read_78 (by decide) (fun c_9 => ?_) (fun c_9 => ?_)
        · rw [if_pos (c_9)] at hf
          exact b_X7_read_85 qM   C0 (fun zM_ x1_ x2_ x3_ => f_X7_read_56  fu zM_ x1_ x2_ x3_) ih r_8.2 x1 H locs ls hP hD hS (lv_sub hl [0, 1] rfl) hf
        · rw [if_neg (not_not_intro c_9)] at hf
          refine lv_iconst (v := 1) hx hb dX7_read_81 (by decide) ?_
          refine lv_goto (tgt := 86) hx hb dX7_read_82 (by decide) ?_
          exact b_X7_read_86 qM   C0 (fun zM_ x1_ x2_ x3_ => f_X7_read_56  fu zM_ x1_ x2_ x3_) ih r_8.2 x1 (1 : Int32) H locs ls hP hD hS (lv_sub hl [0, 1] rfl) hf
def f_X7_read_13 (zM : MdS) (x1 : Int32) (v1 : Int32) : Option (Int32 × MdS) := (f_X7_refused zM v1).bind fun r_1 => if r_1.1 = 0 then (f_X7_empty (uM_at (uM_isFull (uM_fault (uM_wrongPlace r_1.2 (-1 : Int32)) (0 : Int32)) (0 : Int32)) (0 : Int32)) (8 : Int32)).bind fun r_3 => (f_X7_takes r_3 (45 : Int32)).bind fun r_4 => f_X7_read_56 fuel r_4.2 x1 r_4.1 (1 : Int32) else some ((0 : Int32), r_1.2)
set_option maxHeartbeats 4000000 in
set_option maxRecDepth 100000 in
theorem b_X7_read_13 {p : Program} {l : Launch} {e : Env} {s : State} {m : MethodId} {args : Array Value} {below : List Frame} {meth : Method} {c : Code} {G : va_G} {cA : Nat → ClassId} {W9 : va_W} (qM : Nat → Nat) (C0 : Amb p s m args meth c cX7_read RX7 4 (some .int) G cA (adr W9) []) {res : Int32 × MdS} : ∀ (zM : MdS) (x1 : Int32) (v1 : Int32) (H : Heap) (locs : List Loc) (ls : Array Slot), va_P G vwCl ((wMd cA qM zM)) H → va_D (adr W9) ((wMd cA qM zM)) → va_S (adr W9) s.heap H locs → lv_has ls 4 [(0, .ref (qM 0)), (1, .int x1)] → f_X7_read_13 zM x1 v1 = some res → W p l e rm_X7_read s m args below meth c H locs 0 0 (MQ below (qWi G W9 ((wMd cA qM res.2)) res.1) args s 0 0 (adr W9)) (F0 m 13 ls [.int v1, .ref (qM 0)]) := by
  obtain ⟨hx, hb, hr, hml, hown, hts, hlocks, hK, hR, hRA⟩ := id C0
  intro zM x1 v1 H locs ls hP hD hS hl hf
  unfold f_X7_read_13 at hf
  obtain ⟨r_1, hr_1, hf⟩ := obd hf
  refine cWiV (As := [.int v1]) (rest := []) (W1 := ((wMd cA qM r_1.2))) ⟨hx, hb, hml, hown, hts⟩ (m_X7_refused l G cA qM zM v1 r_1 hr_1) (cw_X7_refused hts wi_723 ⟨Nat.le_of_ble_eq_true rfl, Nat.le_of_ble_eq_true rfl⟩) hK hP hD hS [0, 1, 2, 3, 4] [5, 6, 7, 8, 9] rfl rfl rfl (by decide) rfl va_Pnil dj_nil (va_recv hK.1 hP (ci := 5) (q0 := 0) rfl rfl) rfl hl.1 rfl (Nat.le_of_ble_eq_true rfl) dX7_read_13 ⟨Nat.zero_le _, Nat.zero_le _⟩ (fun H locs hP hD hS => ?_)
  refine lv_if_eq (tgt := 21) hx hb dX7_read_16 (by decide) (fun c_2 => ?_) (fun c_2 => ?_)
  · rw [if_pos (c_2)] at hf
    refine lv_aload_n hx hb dX7_read_21 rfl (lv_at hl 0 rfl) ?_
    refine lv_iconst (v := (-1)) hx hb dX7_read_22 (by decide) ?_
    refine va_put (D := G) (ci := 5) (v := .int (-1 : Int32)) (ty := .int) (C := RX7) (T := TX7) (N := 13) hx hb hts fin_X7 tyX7 tyX7_ok nmX7 hown hK.1 hP hD hS 0 rfl rfl 5 (by decide) (hts _ wi_676) (fun _ h9 => h9) rfl (by decide +kernel) rfl rfl (Nat.le_of_ble_eq_true rfl) dX7_read_23 (fun H locs hP hD hS => ?_)
    have hP := sM_wrongPlace_P hP
    have hD := sM_wrongPlace_D hD
    refine lv_aload_n hx hb dX7_read_26 rfl (lv_at hl 0 rfl) ?_
    refine lv_iconst (v := 0) hx hb dX7_read_27 (by decide) ?_
    refine va_put (D := G) (ci := 5) (v := .int (0 : Int32)) (ty := .int) (C := RX7) (T := TX7) (N := 13) hx hb hts fin_X7 tyX7 tyX7_ok nmX7 hown hK.1 hP hD hS 0 rfl rfl 10 (by decide) (hts _ wi_681) (fun _ h9 => h9) rfl (by decide +kernel) rfl rfl (Nat.le_of_ble_eq_true rfl) dX7_read_28 (fun H locs hP hD hS => ?_)
    have hP := sM_fault_P hP
    have hD := sM_fault_D hD
    refine lv_aload_n hx hb dX7_read_31 rfl (lv_at hl 0 rfl) ?_
    refine lv_iconst (v := 0) hx hb dX7_read_32 (by decide) ?_
    refine va_put (D := G) (ci := 5) (v := .int (0 : Int32)) (ty := .boolean) (C := RX7) (T := TX7) (N := 13) hx hb hts fin_X7 tyX7 tyX7_ok nmX7 hown hK.1 hP hD hS 0 rfl rfl 8 (by decide) (hts _ wi_679) (fun _ h9 => h9) rfl (by decide +kernel) (by decide) (by decide) (Nat.le_of_ble_eq_true rfl) dX7_read_33 (fun H locs hP hD hS => ?_)
    have hP := sM_isFull_P hP
    have hD := sM_isFull_D hD
    refine lv_aload_n hx hb dX7_read_36 rfl (lv_at hl 0 rfl) ?_
    refine lv_iconst (v := 0) hx hb dX7_read_37 (by decide) ?_
    refine va_put (D := G) (ci := 5) (v := .int (0 : Int32)) (ty := .int) (C := RX7) (T := TX7) (N := 13) hx hb hts fin_X7 tyX7 tyX7_ok nmX7 hown hK.1 hP hD hS 0 rfl rfl 9 (by decide) (hts _ wi_680) (fun _ h9 => h9) rfl (by decide +kernel) rfl rfl (Nat.le_of_ble_eq_true rfl) dX7_read_38 (fun H locs hP hD hS => ?_)
    have hP := sM_at_P hP
    have hD := sM_at_D hD
    refine lv_aload_n hx hb dX7_read_41 rfl (lv_at hl 0 rfl) ?_
    refine lv_bipush (v := (8 : Int32)) hx hb dX7_read_42 (by decide) ?_
    obtain ⟨r_3, hr_3, hf⟩ := obd hf
    refine cWvV (As := [.int (8 : Int32)]) (rest := []) (W1 := ((wMd cA qM r_3))) ⟨hx, hb, hml, hown, hts⟩ (m_X7_empty l G cA qM (uM_at (uM_isFull (uM_fault (uM_wrongPlace r_1.2 (-1 : Int32)) (0 : Int32)) (0 : Int32)) (0 : Int32)) (8 : Int32) r_3 hr_3) (cw_X7_empty hts wi_738 ⟨Nat.le_of_ble_eq_true rfl, Nat.le_of_ble_eq_true rfl⟩) hK hP hD hS [0, 1, 2, 3, 4] [5, 6, 7, 8, 9] rfl rfl rfl (by decide) rfl va_Pnil dj_nil (va_recv hK.1 hP (ci := 5) (q0 := 0) rfl rfl) rfl hl.1 rfl (Nat.le_of_ble_eq_true rfl) dX7_read_44 ⟨Nat.zero_le _, Nat.zero_le _⟩ (fun H locs hP hD hS => ?_)
    refine lv_aload_n hx hb dX7_read_47 rfl (lv_at hl 0 rfl) ?_
    refine lv_bipush (v := (45 : Int32)) hx hb dX7_read_48 (by decide) ?_
    obtain ⟨r_4, hr_4, hf⟩ := obd hf
    refine cWiV (As := [.int (45 : Int32)]) (rest := []) (W1 := ((wMd cA qM r_4.2))) ⟨hx, hb, hml, hown, hts⟩ (m_X7_takes l G cA qM r_3 (45 : Int32) r_4 hr_4) (cw_X7_takes hts wi_742 ⟨Nat.le_of_ble_eq_true rfl, Nat.le_of_ble_eq_true rfl⟩) hK hP hD hS [0, 1, 2, 3, 4] [5, 6, 7, 8, 9] rfl rfl rfl (by decide) rfl va_Pnil dj_nil (va_recv hK.1 hP (ci := 5) (q0 := 0) rfl rfl) rfl hl.1 rfl (Nat.le_of_ble_eq_true rfl) dX7_read_50 ⟨Nat.zero_le _, Nat.zero_le _⟩ (fun H locs hP hD hS => ?_)
    refine lv_istore_n (lv' := [(2, .int r_4.1), (0, .ref (qM 0)), (1, .int x1)]) hx hb dX7_read_53 rfl hl (by decide) rfl (fun ls hl => ?_)
    refine lv_iconst (v := 1) hx hb dX7_read_54 (by decide) ?_
    refine lv_istore_n (lv' := [(3, .int (1 : Int32)), (2, .int r_4.1), (0, .ref (qM 0)), (1, .int x1)]) hx hb dX7_read_55 rfl hl (by decide) rfl (fun ls hl => ?_)
    exact b_X7_read_56 qM   C0  fuel r_4.2 x1 r_4.1 (1 : Int32) H locs ls hP hD hS (lv_sub hl [2, 3, 1, 0] rfl) hf
  · rw [if_neg (c_2)] at hf
    refine lv_iconst (v := 0) hx hb dX7_read_19 (by decide) ?_
    cases hf
    exact W.iret hx hb hr (fun t ht hW => ⟨⟨_, (), rfl, rfl, toT ht hP⟩, hS.F ht⟩) hS.2.2 dX7_read_20 hlocks
def f_X7_read (zM : MdS) (a1 : Int32) : Option (Int32 × MdS) := (f_X7_isSlot a1).bind fun r_1 => if r_1 = 0 then f_X7_read_13  zM a1 (1 : Int32) else f_X7_read_13  zM a1 (0 : Int32)
set_option maxHeartbeats 4000000 in
set_option maxRecDepth 100000 in
theorem b_X7_read_0 {p : Program} {l : Launch} {e : Env} {s : State} {m : MethodId} {args : Array Value} {below : List Frame} {meth : Method} {c : Code} {G : va_G} {cA : Nat → ClassId} {W9 : va_W} (qM : Nat → Nat) (C0 : Amb p s m args meth c cX7_read RX7 4 (some .int) G cA (adr W9) []) {res : Int32 × MdS} : ∀ (zM : MdS) (a1 : Int32) (H : Heap) (locs : List Loc) (ls : Array Slot), va_P G vwCl ((wMd cA qM zM)) H → va_D (adr W9) ((wMd cA qM zM)) → va_S (adr W9) s.heap H locs → lv_has ls 4 [(0, .ref (qM 0)), (1, .int a1)] → f_X7_read zM a1 = some res → W p l e rm_X7_read s m args below meth c H locs 0 0 (MQ below (qWi G W9 ((wMd cA qM res.2)) res.1) args s 0 0 (adr W9)) (F0 m 0 ls []) := by
  obtain ⟨hx, hb, hr, hml, hown, hts, hlocks, hK, hR, hRA⟩ := id C0
  intro zM a1 H locs ls hP hD hS hl hf
  unfold f_X7_read at hf
  refine lv_aload_n hx hb dX7_read_0 rfl (lv_at hl 0 rfl) ?_
  refine lv_iload_n hx hb dX7_read_1 rfl (lv_at hl 1 rfl) ?_
  obtain ⟨r_1, hr_1, hf⟩ := obd hf
  refine cRiS (As := [.int a1]) (rest := [.ref (qM 0)]) ⟨hx, hb, hml, hown, hts⟩ (m_X7_isSlot l G cA a1 r_1 hr_1) (cw_X7_isSlot hts wi_735 ⟨Nat.le_of_ble_eq_true rfl, Nat.le_of_ble_eq_true rfl⟩) hK va_Pnil rfl hl.1 rfl (Nat.le_of_ble_eq_true rfl) dX7_read_2 ⟨Nat.zero_le _, Nat.zero_le _⟩ ?_
  refine lv_if_eq (tgt := 12) hx hb dX7_read_5 (by decide) (fun c_2 => ?_) (fun c_2 => ?_)
  · rw [if_pos (c_2)] at hf
    refine lv_iconst (v := 1) hx hb dX7_read_12 (by decide) ?_
    exact b_X7_read_13 qM   C0  zM a1 (1 : Int32) H locs ls hP hD hS (lv_sub hl [0, 1] rfl) hf
  · rw [if_neg (c_2)] at hf
    refine lv_iconst (v := 0) hx hb dX7_read_8 (by decide) ?_
    refine lv_goto (tgt := 13) hx hb dX7_read_9 (by decide) ?_
    exact b_X7_read_13 qM   C0  zM a1 (0 : Int32) H locs ls hP hD hS (lv_sub hl [0, 1] rfl) hf

set_option maxRecDepth 100000 in
theorem m_X7_read (l : Launch) (G : va_G) (cA : Nat → ClassId) (qM : Nat → Nat) (zM : MdS) (a1 : Int32) (res : Int32 × MdS) (hf : f_X7_read zM a1 = some res) : MWi l yX7_read (.code yX7_read cX7_read 4 (some .int) :: wd) rm_X7_read G cA [.ref (qM 0), .int a1] ((wMd cA qM zM)) [] ((wMd cA qM res.2)) res.1 := by
  refine Met.ofW (cc := cX7_read) (maxL := 4) (ret := (some .int)) (by decide) rfl ?_
  intro p e s m args below meth c s₁ B hml hv
  obtain ⟨rfl, hK, hP, hD0, hR, hRA⟩ := hv
  have C0 : Amb p s m ([.ref (qM 0), .int a1] : List Value).toArray meth c cX7_read RX7 4 (some .int) G cA (adr ((wMd cA qM zM))) [] := ⟨B.exec, B.bytes, B.returns, hml, findClass_of_methodNamed B.named, fun w h => atoms_spec (ws := (.code yX7_read cX7_read 4 (some .int) :: wd)) B.pre w (List.mem_cons_of_mem _ h), B.notSynchronized, hK, hR, hRA⟩
  have hl := lv_entry ([.ref (qM 0), .int a1]) (n := 4) (Nat.le_of_ble_eq_true rfl)
  rw [lg_entry_eq]
  generalize (lg_sl ([.ref (qM 0), .int a1]) ++ List.replicate (4 - (lg_sl ([.ref (qM 0), .int a1])).length) Slot.unset).toArray = ls at hl ⊢
  have hl : lv_has ls 4 [(0, .ref (qM 0)), (1, .int a1)] := hl
  exact b_X7_read_0 (W9 := ((wMd cA qM zM))) qM   C0 zM a1 s.heap [] ls hP (adr.self hD0) va_S.rf hl hf
theorem cw_X7_read {R : Room} {s : State} {args : Array Value} {own : String} {index : Nat} (ht : ∀ w ∈ wd, w.before args s = true) (hlink : Cond.methodLink own index yX7_read ∈ wd) (hR : rm_X7_read.frames + 1 ≤ R.frames ∧ 8 + (4 + 11) + rm_X7_read.locals ≤ R.locals) : CallW R s args own RX7 index yX7_read cX7_read 4 (some .int) (.code yX7_read cX7_read 4 (some .int) :: wd) rm_X7_read 0 0 1 := cwV9 1 ht wi_734 wi_732 wi_733 wi_60 hlink (by decide +kernel) rfl rfl hR
def rm_X7_place : Room := { frames := 0, cells := 0, slots := 0, locals := 0 }
def f_X7_place (zM : MdS) : Option (Int32 × MdS) := some ((gM_wrongPlace (uM_refusal zM (0 : Int32))), (uM_refusal zM (0 : Int32)))
set_option maxHeartbeats 4000000 in
set_option maxRecDepth 100000 in
theorem b_X7_place_0 {p : Program} {l : Launch} {e : Env} {s : State} {m : MethodId} {args : Array Value} {below : List Frame} {meth : Method} {c : Code} {G : va_G} {cA : Nat → ClassId} {W9 : va_W} (qM : Nat → Nat) (C0 : Amb p s m args meth c cX7_place RX7 1 (some .int) G cA (adr W9) []) {res : Int32 × MdS} : ∀ (zM : MdS) (H : Heap) (locs : List Loc) (ls : Array Slot), va_P G vwCl ((wMd cA qM zM)) H → va_D (adr W9) ((wMd cA qM zM)) → va_S (adr W9) s.heap H locs → lv_has ls 1 [(0, .ref (qM 0))] → f_X7_place zM = some res → W p l e rm_X7_place s m args below meth c H locs 0 0 (MQ below (qWi G W9 ((wMd cA qM res.2)) res.1) args s 0 0 (adr W9)) (F0 m 0 ls []) := by
  obtain ⟨hx, hb, hr, hml, hown, hts, hlocks, hK, hR, hRA⟩ := id C0
  intro zM H locs ls hP hD hS hl hf
  unfold f_X7_place at hf
  refine lv_aload_n hx hb dX7_place_0 rfl (lv_at hl 0 rfl) ?_
  refine lv_iconst (v := 0) hx hb dX7_place_1 (by decide) ?_
  refine va_put (D := G) (ci := 5) (v := .int (0 : Int32)) (ty := .int) (C := RX7) (T := TX7) (N := 13) hx hb hts fin_X7 tyX7 tyX7_ok nmX7 hown hK.1 hP hD hS 0 rfl rfl 0 (by decide) (hts _ wi_671) (fun _ h9 => h9) rfl (by decide +kernel) rfl rfl (Nat.le_of_ble_eq_true rfl) dX7_place_2 (fun H locs hP hD hS => ?_)
  have hP := sM_refusal_P hP
  have hD := sM_refusal_D hD
  refine lv_aload_n hx hb dX7_place_5 rfl (lv_at hl 0 rfl) ?_
  refine va_get (D := G) (ci := 5) (v := .int (gM_wrongPlace (uM_refusal zM (0 : Int32)))) (C := RX7) (T := TX7) (N := 13) hx hb hts fin_X7 hown hK.1 hP 0 rfl rfl 5 (by decide) (hts _ wi_676) (fun _ h9 => h9) rfl dX7_place_6 ?_
  cases hf
  exact W.iret hx hb hr (fun t ht hW => ⟨⟨_, (), rfl, rfl, toT ht hP⟩, hS.F ht⟩) hS.2.2 dX7_place_9 hlocks

set_option maxRecDepth 100000 in
theorem m_X7_place (l : Launch) (G : va_G) (cA : Nat → ClassId) (qM : Nat → Nat) (zM : MdS) (res : Int32 × MdS) (hf : f_X7_place zM = some res) : MWi l yX7_place (.code yX7_place cX7_place 1 (some .int) :: wd) rm_X7_place G cA [.ref (qM 0)] ((wMd cA qM zM)) [] ((wMd cA qM res.2)) res.1 := by
  refine Met.ofW (cc := cX7_place) (maxL := 1) (ret := (some .int)) (by decide) rfl ?_
  intro p e s m args below meth c s₁ B hml hv
  obtain ⟨rfl, hK, hP, hD0, hR, hRA⟩ := hv
  have C0 : Amb p s m ([.ref (qM 0)] : List Value).toArray meth c cX7_place RX7 1 (some .int) G cA (adr ((wMd cA qM zM))) [] := ⟨B.exec, B.bytes, B.returns, hml, findClass_of_methodNamed B.named, fun w h => atoms_spec (ws := (.code yX7_place cX7_place 1 (some .int) :: wd)) B.pre w (List.mem_cons_of_mem _ h), B.notSynchronized, hK, hR, hRA⟩
  have hl := lv_entry ([.ref (qM 0)]) (n := 1) (Nat.le_of_ble_eq_true rfl)
  rw [lg_entry_eq]
  generalize (lg_sl ([.ref (qM 0)]) ++ List.replicate (1 - (lg_sl ([.ref (qM 0)])).length) Slot.unset).toArray = ls at hl ⊢
  have hl : lv_has ls 1 [(0, .ref (qM 0))] := hl
  exact b_X7_place_0 (W9 := ((wMd cA qM zM))) qM   C0 zM s.heap [] ls hP (adr.self hD0) va_S.rf hl hf
theorem cw_X7_place {R : Room} {s : State} {args : Array Value} {own : String} {index : Nat} (ht : ∀ w ∈ wd, w.before args s = true) (hlink : Cond.methodLink own index yX7_place ∈ wd) (hR : rm_X7_place.frames + 1 ≤ R.frames ∧ 8 + (1 + 11) + rm_X7_place.locals ≤ R.locals) : CallW R s args own RX7 index yX7_place cX7_place 1 (some .int) (.code yX7_place cX7_place 1 (some .int) :: wd) rm_X7_place 0 0 0 := cwV9 0 ht wi_809 wi_807 wi_808 wi_60 hlink (by decide +kernel) rfl rfl hR
def rm_X7_put : Room := { frames := 0, cells := 0, slots := 0, locals := 0 }
def f_X7_put (zM : MdS) (a1 : Int32) : Option (MdS) := if inb (gM_outSize zM) 1400 = true then some (uM_outSize (uM_out zM (upd (gM_out zM) (gM_outSize zM).toNatClampNeg (vp_nar .char a1))) ((gM_outSize (uM_out zM (upd (gM_out zM) (gM_outSize zM).toNatClampNeg (vp_nar .char a1)))) + (1 : Int32))) else none
set_option maxHeartbeats 4000000 in
set_option maxRecDepth 100000 in
theorem b_X7_put_0 {p : Program} {l : Launch} {e : Env} {s : State} {m : MethodId} {args : Array Value} {below : List Frame} {meth : Method} {c : Code} {G : va_G} {cA : Nat → ClassId} {W9 : va_W} (qM : Nat → Nat) (C0 : Amb p s m args meth c cX7_put RX7 2 none G cA (adr W9) []) {res : MdS} : ∀ (zM : MdS) (a1 : Int32) (H : Heap) (locs : List Loc) (ls : Array Slot), va_P G vwCl ((wMd cA qM zM)) H → va_D (adr W9) ((wMd cA qM zM)) → va_S (adr W9) s.heap H locs → lv_has ls 2 [(0, .ref (qM 0)), (1, .int a1)] → f_X7_put zM a1 = some res → W p l e rm_X7_put s m args below meth c H locs 0 0 (MQ below (qWv G W9 ((wMd cA qM res))) args s 0 0 (adr W9)) (F0 m 0 ls []) := by
  obtain ⟨hx, hb, hr, hml, hown, hts, hlocks, hK, hR, hRA⟩ := id C0
  intro zM a1 H locs ls hP hD hS hl hf
  unfold f_X7_put at hf
  refine lv_aload_n hx hb dX7_put_0 rfl (lv_at hl 0 rfl) ?_
  refine va_get (D := G) (ci := 5) (v := .ref (qM 2)) (C := RX7) (T := TX7) (N := 13) hx hb hts fin_X7 hown hK.1 hP 0 rfl rfl 3 (by decide) (hts _ wi_674) (fun _ h9 => h9) rfl dX7_put_1 ?_
  refine lv_aload_n hx hb dX7_put_4 rfl (lv_at hl 0 rfl) ?_
  refine va_get (D := G) (ci := 5) (v := .int (gM_outSize zM)) (C := RX7) (T := TX7) (N := 13) hx hb hts fin_X7 hown hK.1 hP 0 rfl rfl 4 (by decide) (hts _ wi_675) (fun _ h9 => h9) rfl dX7_put_5 ?_
  refine lv_iload_n hx hb dX7_put_8 rfl (lv_at hl 1 rfl) ?_
  obtain ⟨hi_1, hf⟩ := oif hf
  refine va_cast hx hb hK.1 hP hD hS 2 2 rfl rfl (inb_in hi_1) dX7_put_9 (fun H locs hP hD hS => ?_)
  have hP := sM_out_P hP
  have hD := sM_out_D hD
  refine lv_aload_n hx hb dX7_put_10 rfl (lv_at hl 0 rfl) ?_
  refine lv_dup hx hb dX7_put_11 rfl ?_
  refine va_get (D := G) (ci := 5) (v := .int (gM_outSize (uM_out zM (upd (gM_out zM) (gM_outSize zM).toNatClampNeg (vp_nar .char a1))))) (C := RX7) (T := TX7) (N := 13) hx hb hts fin_X7 hown hK.1 hP 0 rfl rfl 4 (by decide) (hts _ wi_675) (fun _ h9 => h9) rfl dX7_put_12 ?_
  refine lv_iconst (v := 1) hx hb dX7_put_15 (by decide) ?_
  refine lv_iadd hx hb dX7_put_16 ?_
  refine va_put (D := G) (ci := 5) (v := .int ((gM_outSize (uM_out zM (upd (gM_out zM) (gM_outSize zM).toNatClampNeg (vp_nar .char a1)))) + (1 : Int32))) (ty := .int) (C := RX7) (T := TX7) (N := 13) hx hb hts fin_X7 tyX7 tyX7_ok nmX7 hown hK.1 hP hD hS 0 rfl rfl 4 (by decide) (hts _ wi_675) (fun _ h9 => h9) rfl (by decide +kernel) rfl rfl (Nat.le_of_ble_eq_true rfl) dX7_put_17 (fun H locs hP hD hS => ?_)
  have hP := sM_outSize_P hP
  have hD := sM_outSize_D hD
  cases hf
  exact W.vret hx hb hr (fun t ht hW => ⟨⟨(), rfl, trivial, toT ht hP⟩, hS.F ht⟩) hS.2.2 dX7_put_20 hlocks

set_option maxRecDepth 100000 in
theorem m_X7_put (l : Launch) (G : va_G) (cA : Nat → ClassId) (qM : Nat → Nat) (zM : MdS) (a1 : Int32) (res : MdS) (hf : f_X7_put zM a1 = some res) : MWv l yX7_put (.code yX7_put cX7_put 2 none :: wd) rm_X7_put G cA [.ref (qM 0), .int a1] ((wMd cA qM zM)) [] ((wMd cA qM res)) := by
  refine Met.ofW (cc := cX7_put) (maxL := 2) (ret := none) (by decide) rfl ?_
  intro p e s m args below meth c s₁ B hml hv
  obtain ⟨rfl, hK, hP, hD0, hR, hRA⟩ := hv
  have C0 : Amb p s m ([.ref (qM 0), .int a1] : List Value).toArray meth c cX7_put RX7 2 none G cA (adr ((wMd cA qM zM))) [] := ⟨B.exec, B.bytes, B.returns, hml, findClass_of_methodNamed B.named, fun w h => atoms_spec (ws := (.code yX7_put cX7_put 2 none :: wd)) B.pre w (List.mem_cons_of_mem _ h), B.notSynchronized, hK, hR, hRA⟩
  have hl := lv_entry ([.ref (qM 0), .int a1]) (n := 2) (Nat.le_of_ble_eq_true rfl)
  rw [lg_entry_eq]
  generalize (lg_sl ([.ref (qM 0), .int a1]) ++ List.replicate (2 - (lg_sl ([.ref (qM 0), .int a1])).length) Slot.unset).toArray = ls at hl ⊢
  have hl : lv_has ls 2 [(0, .ref (qM 0)), (1, .int a1)] := hl
  exact b_X7_put_0 (W9 := ((wMd cA qM zM))) qM   C0 zM a1 s.heap [] ls hP (adr.self hD0) va_S.rf hl hf
theorem cw_X7_put {R : Room} {s : State} {args : Array Value} {own : String} {index : Nat} (ht : ∀ w ∈ wd, w.before args s = true) (hlink : Cond.methodLink own index yX7_put ∈ wd) (hR : rm_X7_put.frames + 1 ≤ R.frames ∧ 8 + (2 + 11) + rm_X7_put.locals ≤ R.locals) : CallW R s args own RX7 index yX7_put cX7_put 2 none (.code yX7_put cX7_put 2 none :: wd) rm_X7_put 0 0 1 := cwV9 1 ht wi_821 wi_820 wi_45 wi_60 hlink (by decide +kernel) rfl rfl hR
def rm_X7_putNumber : Room := { frames := 1, cells := 0, slots := 0, locals := 21 }
def f_X7_putNumber_24  : Nat → MdS → Int64 → Int64 → Option (MdS)
  | 0, _, _, _ => none
  | fu + 1, zM, x1, x5 => if x5 ≤ (0 : Int64) then some zM else if ¬ x5 = 0 then (f_X7_put zM ((((((48 : Int64) + ((x1 / x5) - (x1 / x5) / (10 : Int64) * (10 : Int64)))).toInt32).toUInt32 % 65536).toInt32)).bind fun r_3 => (some ((x5 / (10 : Int64)))).bind fun y_4 => f_X7_putNumber_24  fu r_3 x1 y_4 else none
set_option maxHeartbeats 4000000 in
set_option maxRecDepth 100000 in
theorem b_X7_putNumber_24 {p : Program} {l : Launch} {e : Env} {s : State} {m : MethodId} {args : Array Value} {below : List Frame} {meth : Method} {c : Code} {G : va_G} {cA : Nat → ClassId} {W9 : va_W} (qM : Nat → Nat) (C0 : Amb p s m args meth c cX7_putNumber RX7 7 none G cA (adr W9) []) {res : MdS} : ∀ (fu : Nat) (zM : MdS) (x1 : Int64) (x5 : Int64) (H : Heap) (locs : List Loc) (ls : Array Slot), va_P G vwCl ((wMd cA qM zM)) H → va_D (adr W9) ((wMd cA qM zM)) → va_S (adr W9) s.heap H locs → lv_has ls 7 [(0, .ref (qM 0)), (1, .long x1), (5, .long x5)] → f_X7_putNumber_24 fu zM x1 x5 = some res → W p l e rm_X7_putNumber s m args below meth c H locs 0 0 (MQ below (qWv G W9 ((wMd cA qM res))) args s 0 0 (adr W9)) (F0 m 24 ls []) := by
  obtain ⟨hx, hb, hr, hml, hown, hts, hlocks, hK, hR, hRA⟩ := id C0
  intro fu
  induction fu with
  | zero =>
    intro zM x1 x5 H locs ls hP hD hS hl hf
    rw [f_X7_putNumber_24] at hf
    cases hf
  | succ fu ih =>
    intro zM x1 x5 H locs ls hP hD hS hl hf
    rw [f_X7_putNumber_24] at hf
    refine lv_lload hx hb dX7_putNumber_24 (lv_at hl 2 rfl) ?_
    refine lv_lconst (v := (0 : Int64)) hx hb dX7_putNumber_26 (by decide) ?_
    refine W.lcmp hx hb dX7_putNumber_27 ?_
    refine lv_if_le (tgt := 60) hx hb dX7_putNumber_28 (by decide) (fun c_1 => ?_) (fun c_1 => ?_)
    · rw [if_pos ((lg_cmp_le _ _).mp c_1)] at hf
      cases hf
      exact W.vret hx hb hr (fun t ht hW => ⟨⟨(), rfl, trivial, toT ht hP⟩, hS.F ht⟩) hS.2.2 dX7_putNumber_60 hlocks
    · rw [if_neg (fun h => c_1 ((lg_cmp_le _ _).mpr h))] at hf
      refine lv_aload_n hx hb dX7_putNumber_31 rfl (lv_at hl 0 rfl) ?_
      refine lv_ldc2 (v := (48 : Int64)) hx hb hown (hts _ wi_828) dX7_putNumber_32 ?_
      refine lv_lload_n hx hb dX7_putNumber_35 rfl (lv_at hl 1 rfl) ?_
      refine lv_lload hx hb dX7_putNumber_36 (lv_at hl 2 rfl) ?_
      obtain ⟨hn_2, hf⟩ := oif hf
      refine lv_ldiv hx hb dX7_putNumber_38 hn_2 ?_
      refine lv_ldc2 (v := (10 : Int64)) hx hb hown (hts _ wi_827) dX7_putNumber_39 ?_
      refine lv_lrem hx hb dX7_putNumber_42 (by decide) ?_
      refine lv_ladd hx hb dX7_putNumber_43 ?_
      refine lv_l2i hx hb dX7_putNumber_44 rfl ?_
      refine lv_i2c hx hb dX7_putNumber_45 rfl ?_
      obtain ⟨r_3, hr_3, hf⟩ := obd hf
      refine cWvV (As := [.int ((((((48 : Int64) + ((x1 / x5) - (x1 / x5) / (10 : Int64) * (10 : Int64)))).toInt32).toUInt32 % 65536).toInt32)]) (rest := []) (W1 := ((wMd cA qM r_3))) ⟨hx, hb, hml, hown, hts⟩ (m_X7_put l G cA qM zM ((((((48 : Int64) + ((x1 / x5) - (x1 / x5) / (10 : Int64) * (10 : Int64)))).toInt32).toUInt32 % 65536).toInt32) r_3 hr_3) (cw_X7_put hts wi_818 ⟨Nat.le_of_ble_eq_true rfl, Nat.le_of_ble_eq_true rfl⟩) hK hP hD hS [0, 1, 2, 3, 4] [5, 6, 7, 8, 9] rfl rfl rfl (by decide) rfl va_Pnil dj_nil (va_recv hK.1 hP (ci := 5) (q0 := 0) rfl rfl) rfl hl.1 rfl (Nat.le_of_ble_eq_true rfl) dX7_putNumber_46 ⟨Nat.zero_le _, Nat.zero_le _⟩ (fun H locs hP hD hS => ?_)
      refine lv_lload hx hb dX7_putNumber_49 (lv_at hl 2 rfl) ?_
      refine lv_ldc2 (v := (10 : Int64)) hx hb hown (hts _ wi_827) dX7_putNumber_51 ?_
      refine lv_ldiv hx hb dX7_putNumber_54 (by decide) ?_
      obtain ⟨y_4, hq, hf⟩ := obd hf
      have hy_4 : (x5 / (10 : Int64)) = y_4 := Option.some.inj hq
      rw [hy_4]
      refine lv_lstore (lv' := [(5, .long y_4), (0, .ref (qM 0)), (1, .long x1)]) hx hb dX7_putNumber_55 hl (by decide) rfl (fun ls hl => ?_)
      refine lv_goto (tgt := 24) hx hb dX7_putNumber_57 (by decide) ?_
      exact ih r_3 x1 y_4 H locs ls hP hD hS (lv_sub hl [1, 2, 0] rfl) hf
def f_X7_putNumber_2  : Nat → MdS → Int64 → Int64 → Option (MdS)
  | 0, _, _, _ => none
  | fu + 1, zM, x1, x3 => if ¬ x3 = 0 then if (x1 / x3) ≤ (9 : Int64) then f_X7_putNumber_24 fuel zM x1 x3 else (some ((x3 * (10 : Int64)))).bind fun y_3 => f_X7_putNumber_2  fu zM x1 y_3 else none
set_option maxHeartbeats 4000000 in
set_option maxRecDepth 100000 in
theorem b_X7_putNumber_2 {p : Program} {l : Launch} {e : Env} {s : State} {m : MethodId} {args : Array Value} {below : List Frame} {meth : Method} {c : Code} {G : va_G} {cA : Nat → ClassId} {W9 : va_W} (qM : Nat → Nat) (C0 : Amb p s m args meth c cX7_putNumber RX7 7 none G cA (adr W9) []) {res : MdS} : ∀ (fu : Nat) (zM : MdS) (x1 : Int64) (x3 : Int64) (H : Heap) (locs : List Loc) (ls : Array Slot), va_P G vwCl ((wMd cA qM zM)) H → va_D (adr W9) ((wMd cA qM zM)) → va_S (adr W9) s.heap H locs → lv_has ls 7 [(0, .ref (qM 0)), (1, .long x1), (3, .long x3)] → f_X7_putNumber_2 fu zM x1 x3 = some res → W p l e rm_X7_putNumber s m args below meth c H locs 0 0 (MQ below (qWv G W9 ((wMd cA qM res))) args s 0 0 (adr W9)) (F0 m 2 ls []) := by
  obtain ⟨hx, hb, hr, hml, hown, hts, hlocks, hK, hR, hRA⟩ := id C0
  intro fu
  induction fu with
  | zero =>
    intro zM x1 x3 H locs ls hP hD hS hl hf
    rw [f_X7_putNumber_2] at hf
    cases hf
  | succ fu ih =>
    intro zM x1 x3 H locs ls hP hD hS hl hf
    rw [f_X7_putNumber_2] at hf
    refine lv_lload_n hx hb dX7_putNumber_2 rfl (lv_at hl 1 rfl) ?_
    refine lv_lload_n hx hb dX7_putNumber_3 rfl (lv_at hl 2 rfl) ?_
    obtain ⟨hn_1, hf⟩ := oif hf
    refine lv_ldiv hx hb dX7_putNumber_4 hn_1 ?_
    refine lv_ldc2 (v := (9 : Int64)) hx hb hown (hts _ wi_826) dX7_putNumber_5 ?_
    refine W.lcmp hx hb dX7_putNumber_8 ?_
    refine lv_if_le (tgt := 21) hx hb dX7_putNumber_9 (by decide) (fun c_2 => ?_) (fun c_2 => ?_)
    · rw [if_pos ((lg_cmp_le _ _).mp c_2)] at hf
      refine lv_lload_n hx hb dX7_putNumber_21 rfl (lv_at hl 2 rfl) ?_
      refine lv_lstore (lv' := [(5, .long x3), (0, .ref (qM 0)), (1, .long x1), (3, .long x3)]) hx hb dX7_putNumber_22 hl (by decide) rfl (fun ls hl => ?_)
      exact b_X7_putNumber_24 qM   C0  fuel zM x1 x3 H locs ls hP hD hS (lv_sub hl [1, 2, 0] rfl) hf
    · rw [if_neg (fun h => c_2 ((lg_cmp_le _ _).mpr h))] at hf
      refine lv_lload_n hx hb dX7_putNumber_12 rfl (lv_at hl 2 rfl) ?_
      refine lv_ldc2 (v := (10 : Int64)) hx hb hown (hts _ wi_827) dX7_putNumber_13 ?_
      refine lv_lmul hx hb dX7_putNumber_16 ?_
      obtain ⟨y_3, hq, hf⟩ := obd hf
      have hy_3 : (x3 * (10 : Int64)) = y_3 := Option.some.inj hq
      rw [hy_3]
      refine lv_lstore_n (lv' := [(3, .long y_3), (0, .ref (qM 0)), (1, .long x1)]) hx hb dX7_putNumber_17 rfl hl (by decide) rfl (fun ls hl => ?_)
      refine lv_goto (tgt := 2) hx hb dX7_putNumber_18 (by decide) ?_
      exact ih zM x1 y_3 H locs ls hP hD hS (lv_sub hl [1, 2, 0] rfl) hf
def f_X7_putNumber (zM : MdS) (a1 : Int64) : Option (MdS) := f_X7_putNumber_2 fuel zM a1 (1 : Int64)
set_option maxHeartbeats 4000000 in
set_option maxRecDepth 100000 in
theorem b_X7_putNumber_0 {p : Program} {l : Launch} {e : Env} {s : State} {m : MethodId} {args : Array Value} {below : List Frame} {meth : Method} {c : Code} {G : va_G} {cA : Nat → ClassId} {W9 : va_W} (qM : Nat → Nat) (C0 : Amb p s m args meth c cX7_putNumber RX7 7 none G cA (adr W9) []) {res : MdS} : ∀ (zM : MdS) (a1 : Int64) (H : Heap) (locs : List Loc) (ls : Array Slot), va_P G vwCl ((wMd cA qM zM)) H → va_D (adr W9) ((wMd cA qM zM)) → va_S (adr W9) s.heap H locs → lv_has ls 7 [(0, .ref (qM 0)), (1, .long a1)] → f_X7_putNumber zM a1 = some res → W p l e rm_X7_putNumber s m args below meth c H locs 0 0 (MQ below (qWv G W9 ((wMd cA qM res))) args s 0 0 (adr W9)) (F0 m 0 ls []) := by
  obtain ⟨hx, hb, hr, hml, hown, hts, hlocks, hK, hR, hRA⟩ := id C0
  intro zM a1 H locs ls hP hD hS hl hf
  unfold f_X7_putNumber at hf
  refine lv_lconst (v := (1 : Int64)) hx hb dX7_putNumber_0 (by decide) ?_
  refine lv_lstore_n (lv' := [(3, .long (1 : Int64)), (0, .ref (qM 0)), (1, .long a1)]) hx hb dX7_putNumber_1 rfl hl (by decide) rfl (fun ls hl => ?_)
  exact b_X7_putNumber_2 qM   C0  fuel zM a1 (1 : Int64) H locs ls hP hD hS (lv_sub hl [1, 2, 0] rfl) hf

set_option maxRecDepth 100000 in
theorem m_X7_putNumber (l : Launch) (G : va_G) (cA : Nat → ClassId) (qM : Nat → Nat) (zM : MdS) (a1 : Int64) (res : MdS) (hf : f_X7_putNumber zM a1 = some res) : MWv l yX7_putNumber (.code yX7_putNumber cX7_putNumber 7 none :: wd) rm_X7_putNumber G cA [.ref (qM 0), .long a1] ((wMd cA qM zM)) [] ((wMd cA qM res)) := by
  refine Met.ofW (cc := cX7_putNumber) (maxL := 7) (ret := none) (by decide) rfl ?_
  intro p e s m args below meth c s₁ B hml hv
  obtain ⟨rfl, hK, hP, hD0, hR, hRA⟩ := hv
  have C0 : Amb p s m ([.ref (qM 0), .long a1] : List Value).toArray meth c cX7_putNumber RX7 7 none G cA (adr ((wMd cA qM zM))) [] := ⟨B.exec, B.bytes, B.returns, hml, findClass_of_methodNamed B.named, fun w h => atoms_spec (ws := (.code yX7_putNumber cX7_putNumber 7 none :: wd)) B.pre w (List.mem_cons_of_mem _ h), B.notSynchronized, hK, hR, hRA⟩
  have hl := lv_entry ([.ref (qM 0), .long a1]) (n := 7) (Nat.le_of_ble_eq_true rfl)
  rw [lg_entry_eq]
  generalize (lg_sl ([.ref (qM 0), .long a1]) ++ List.replicate (7 - (lg_sl ([.ref (qM 0), .long a1])).length) Slot.unset).toArray = ls at hl ⊢
  have hl : lv_has ls 7 [(0, .ref (qM 0)), (1, .long a1)] := hl
  exact b_X7_putNumber_0 (W9 := ((wMd cA qM zM))) qM   C0 zM a1 s.heap [] ls hP (adr.self hD0) va_S.rf hl hf
theorem cw_X7_putNumber {R : Room} {s : State} {args : Array Value} {own : String} {index : Nat} (ht : ∀ w ∈ wd, w.before args s = true) (hlink : Cond.methodLink own index yX7_putNumber ∈ wd) (hR : rm_X7_putNumber.frames + 1 ≤ R.frames ∧ 8 + (7 + 11) + rm_X7_putNumber.locals ≤ R.locals) : CallW R s args own RX7 index yX7_putNumber cX7_putNumber 7 none (.code yX7_putNumber cX7_putNumber 7 none :: wd) rm_X7_putNumber 0 0 1 := cwV9 1 ht wi_825 wi_824 wi_46 wi_60 hlink (by decide +kernel) rfl rfl hR
def rm_X7_putFunction : Room := { frames := 2, cells := 0, slots := 0, locals := 47 }
def f_X7_putFunction_110 (zM : MdS) : Option (MdS) := (f_X7_put zM (120 : Int32)).bind fun r_1 => (f_X7_put r_1 (41 : Int32)).bind fun r_2 => some r_2
set_option maxHeartbeats 4000000 in
set_option maxRecDepth 100000 in
theorem b_X7_putFunction_110 {p : Program} {l : Launch} {e : Env} {s : State} {m : MethodId} {args : Array Value} {below : List Frame} {meth : Method} {c : Code} {G : va_G} {cA : Nat → ClassId} {W9 : va_W} (qM : Nat → Nat) (C0 : Amb p s m args meth c cX7_putFunction RX7 5 none G cA (adr W9) []) {res : MdS} : ∀ (zM : MdS) (H : Heap) (locs : List Loc) (ls : Array Slot), va_P G vwCl ((wMd cA qM zM)) H → va_D (adr W9) ((wMd cA qM zM)) → va_S (adr W9) s.heap H locs → lv_has ls 5 [(0, .ref (qM 0))] → f_X7_putFunction_110 zM = some res → W p l e rm_X7_putFunction s m args below meth c H locs 0 0 (MQ below (qWv G W9 ((wMd cA qM res))) args s 0 0 (adr W9)) (F0 m 110 ls []) := by
  obtain ⟨hx, hb, hr, hml, hown, hts, hlocks, hK, hR, hRA⟩ := id C0
  intro zM H locs ls hP hD hS hl hf
  unfold f_X7_putFunction_110 at hf
  refine lv_aload_n hx hb dX7_putFunction_110 rfl (lv_at hl 0 rfl) ?_
  refine lv_bipush (v := (120 : Int32)) hx hb dX7_putFunction_111 (by decide) ?_
  obtain ⟨r_1, hr_1, hf⟩ := obd hf
  refine cWvV (As := [.int (120 : Int32)]) (rest := []) (W1 := ((wMd cA qM r_1))) ⟨hx, hb, hml, hown, hts⟩ (m_X7_put l G cA qM zM (120 : Int32) r_1 hr_1) (cw_X7_put hts wi_818 ⟨Nat.le_of_ble_eq_true rfl, Nat.le_of_ble_eq_true rfl⟩) hK hP hD hS [0, 1, 2, 3, 4] [5, 6, 7, 8, 9] rfl rfl rfl (by decide) rfl va_Pnil dj_nil (va_recv hK.1 hP (ci := 5) (q0 := 0) rfl rfl) rfl hl.1 rfl (Nat.le_of_ble_eq_true rfl) dX7_putFunction_113 ⟨Nat.zero_le _, Nat.zero_le _⟩ (fun H locs hP hD hS => ?_)
  refine lv_aload_n hx hb dX7_putFunction_116 rfl (lv_at hl 0 rfl) ?_
  refine lv_bipush (v := (41 : Int32)) hx hb dX7_putFunction_117 (by decide) ?_
  obtain ⟨r_2, hr_2, hf⟩ := obd hf
  refine cWvV (As := [.int (41 : Int32)]) (rest := []) (W1 := ((wMd cA qM r_2))) ⟨hx, hb, hml, hown, hts⟩ (m_X7_put l G cA qM r_1 (41 : Int32) r_2 hr_2) (cw_X7_put hts wi_818 ⟨Nat.le_of_ble_eq_true rfl, Nat.le_of_ble_eq_true rfl⟩) hK hP hD hS [0, 1, 2, 3, 4] [5, 6, 7, 8, 9] rfl rfl rfl (by decide) rfl va_Pnil dj_nil (va_recv hK.1 hP (ci := 5) (q0 := 0) rfl rfl) rfl hl.1 rfl (Nat.le_of_ble_eq_true rfl) dX7_putFunction_119 ⟨Nat.zero_le _, Nat.zero_le _⟩ (fun H locs hP hD hS => ?_)
  cases hf
  exact W.vret hx hb hr (fun t ht hW => ⟨⟨(), rfl, trivial, toT ht hP⟩, hS.F ht⟩) hS.2.2 dX7_putFunction_122 hlocks
def f_X7_putFunction_95 (zM : MdS) (v0 : Int32) : Option (MdS) := if v0 ≤ (1 : Int32) then f_X7_putFunction_110  zM else (f_X7_putNumber zM v0.toInt64).bind fun r_2 => f_X7_putFunction_110  r_2
set_option maxHeartbeats 4000000 in
set_option maxRecDepth 100000 in
theorem b_X7_putFunction_95 {p : Program} {l : Launch} {e : Env} {s : State} {m : MethodId} {args : Array Value} {below : List Frame} {meth : Method} {c : Code} {G : va_G} {cA : Nat → ClassId} {W9 : va_W} (qM : Nat → Nat) (C0 : Amb p s m args meth c cX7_putFunction RX7 5 none G cA (adr W9) []) {res : MdS} : ∀ (zM : MdS) (v0 : Int32) (H : Heap) (locs : List Loc) (ls : Array Slot), va_P G vwCl ((wMd cA qM zM)) H → va_D (adr W9) ((wMd cA qM zM)) → va_S (adr W9) s.heap H locs → lv_has ls 5 [(0, .ref (qM 0))] → f_X7_putFunction_95 zM v0 = some res → W p l e rm_X7_putFunction s m args below meth c H locs 0 0 (MQ below (qWv G W9 ((wMd cA qM res))) args s 0 0 (adr W9)) (F0 m 95 ls [.int v0]) := by
  obtain ⟨hx, hb, hr, hml, hown, hts, hlocks, hK, hR, hRA⟩ := id C0
  intro zM v0 H locs ls hP hD hS hl hf
  unfold f_X7_putFunction_95 at hf
  refine lv_istore (lv' := [(4, .int v0), (0, .ref (qM 0))]) hx hb dX7_putFunction_95 hl (by decide) rfl (fun ls hl => ?_)
  refine lv_iload hx hb dX7_putFunction_97 (lv_at hl 0 rfl) ?_
  refine lv_iconst (v := 1) hx hb dX7_putFunction_99 (by decide) ?_
  refine lv_icmp_le (tgt := 110) hx hb dX7_putFunction_100 (by decide) (fun c_1 => ?_) (fun c_1 => ?_)
  · rw [if_pos (c_1)] at hf
    exact b_X7_putFunction_110 qM   C0  zM H locs ls hP hD hS (lv_sub hl [1] rfl) hf
  · rw [if_neg (c_1)] at hf
    refine lv_aload_n hx hb dX7_putFunction_103 rfl (lv_at hl 1 rfl) ?_
    refine lv_iload hx hb dX7_putFunction_104 (lv_at hl 0 rfl) ?_
    refine lv_i2l (v := v0.toInt64) hx hb dX7_putFunction_106 rfl ?_
    obtain ⟨r_2, hr_2, hf⟩ := obd hf
    refine cWvV (As := [.long v0.toInt64]) (rest := []) (W1 := ((wMd cA qM r_2))) ⟨hx, hb, hml, hown, hts⟩ (m_X7_putNumber l G cA qM zM v0.toInt64 r_2 hr_2) (cw_X7_putNumber hts wi_822 ⟨Nat.le_of_ble_eq_true rfl, Nat.le_of_ble_eq_true rfl⟩) hK hP hD hS [0, 1, 2, 3, 4] [5, 6, 7, 8, 9] rfl rfl rfl (by decide) rfl va_Pnil dj_nil (va_recv hK.1 hP (ci := 5) (q0 := 0) rfl rfl) rfl hl.1 rfl (Nat.le_of_ble_eq_true rfl) dX7_putFunction_107 ⟨Nat.zero_le _, Nat.zero_le _⟩ (fun H locs hP hD hS => ?_)
    exact b_X7_putFunction_110 qM   C0  r_2 H locs ls hP hD hS (lv_sub hl [1] rfl) hf
def f_X7_putFunction_85 (zM : MdS) (x3 : Int32) : Option (MdS) := if 0 ≤ x3 then f_X7_putFunction_95  zM x3 else f_X7_putFunction_95  zM (-x3)
set_option maxHeartbeats 4000000 in
set_option maxRecDepth 100000 in
theorem b_X7_putFunction_85 {p : Program} {l : Launch} {e : Env} {s : State} {m : MethodId} {args : Array Value} {below : List Frame} {meth : Method} {c : Code} {G : va_G} {cA : Nat → ClassId} {W9 : va_W} (qM : Nat → Nat) (C0 : Amb p s m args meth c cX7_putFunction RX7 5 none G cA (adr W9) []) {res : MdS} : ∀ (zM : MdS) (x3 : Int32) (H : Heap) (locs : List Loc) (ls : Array Slot), va_P G vwCl ((wMd cA qM zM)) H → va_D (adr W9) ((wMd cA qM zM)) → va_S (adr W9) s.heap H locs → lv_has ls 5 [(0, .ref (qM 0)), (3, .int x3)] → f_X7_putFunction_85 zM x3 = some res → W p l e rm_X7_putFunction s m args below meth c H locs 0 0 (MQ below (qWv G W9 ((wMd cA qM res))) args s 0 0 (adr W9)) (F0 m 85 ls []) := by
  obtain ⟨hx, hb, hr, hml, hown, hts, hlocks, hK, hR, hRA⟩ := id C0
  intro zM x3 H locs ls hP hD hS hl hf
  unfold f_X7_putFunction_85 at hf
  refine lv_iload_n hx hb dX7_putFunction_85 rfl (lv_at hl 1 rfl) ?_
  refine lv_if_ge (tgt := 94) hx hb dX7_putFunction_86 (by decide) (fun c_1 => ?_) (fun c_1 => ?_)
  · rw [if_pos (c_1)] at hf
    refine lv_iload_n hx hb dX7_putFunction_94 rfl (lv_at hl 1 rfl) ?_
    exact b_X7_putFunction_95 qM   C0  zM x3 H locs ls hP hD hS (lv_sub hl [0] rfl) hf
  · rw [if_neg (c_1)] at hf
    refine lv_iload_n hx hb dX7_putFunction_89 rfl (lv_at hl 1 rfl) ?_
    refine lv_ineg hx hb dX7_putFunction_90 ?_
    refine lv_goto (tgt := 95) hx hb dX7_putFunction_91 (by decide) ?_
    exact b_X7_putFunction_95 qM   C0  zM (-x3) H locs ls hP hD hS (lv_sub hl [0] rfl) hf
def f_X7_putFunction_66 (zM : MdS) (x3 : Int32) (v1 : Int32) : Option (MdS) := (f_X7_put zM v1).bind fun r_1 => (f_X7_put r_1 (40 : Int32)).bind fun r_2 => if 0 ≤ x3 then f_X7_putFunction_85  r_2 x3 else (f_X7_put r_2 (45 : Int32)).bind fun r_4 => f_X7_putFunction_85  r_4 x3
set_option maxHeartbeats 4000000 in
set_option maxRecDepth 100000 in
theorem b_X7_putFunction_66 {p : Program} {l : Launch} {e : Env} {s : State} {m : MethodId} {args : Array Value} {below : List Frame} {meth : Method} {c : Code} {G : va_G} {cA : Nat → ClassId} {W9 : va_W} (qM : Nat → Nat) (C0 : Amb p s m args meth c cX7_putFunction RX7 5 none G cA (adr W9) []) {res : MdS} : ∀ (zM : MdS) (x3 : Int32) (v1 : Int32) (H : Heap) (locs : List Loc) (ls : Array Slot), va_P G vwCl ((wMd cA qM zM)) H → va_D (adr W9) ((wMd cA qM zM)) → va_S (adr W9) s.heap H locs → lv_has ls 5 [(0, .ref (qM 0)), (3, .int x3)] → f_X7_putFunction_66 zM x3 v1 = some res → W p l e rm_X7_putFunction s m args below meth c H locs 0 0 (MQ below (qWv G W9 ((wMd cA qM res))) args s 0 0 (adr W9)) (F0 m 66 ls [.int v1, .ref (qM 0)]) := by
  obtain ⟨hx, hb, hr, hml, hown, hts, hlocks, hK, hR, hRA⟩ := id C0
  intro zM x3 v1 H locs ls hP hD hS hl hf
  unfold f_X7_putFunction_66 at hf
  obtain ⟨r_1, hr_1, hf⟩ := obd hf
  refine cWvV (As := [.int v1]) (rest := []) (W1 := ((wMd cA qM r_1))) ⟨hx, hb, hml, hown, hts⟩ (m_X7_put l G cA qM zM v1 r_1 hr_1) (cw_X7_put hts wi_818 ⟨Nat.le_of_ble_eq_true rfl, Nat.le_of_ble_eq_true rfl⟩) hK hP hD hS [0, 1, 2, 3, 4] [5, 6, 7, 8, 9] rfl rfl rfl (by decide) rfl va_Pnil dj_nil (va_recv hK.1 hP (ci := 5) (q0 := 0) rfl rfl) rfl hl.1 rfl (Nat.le_of_ble_eq_true rfl) dX7_putFunction_66 ⟨Nat.zero_le _, Nat.zero_le _⟩ (fun H locs hP hD hS => ?_)
  refine lv_aload_n hx hb dX7_putFunction_69 rfl (lv_at hl 0 rfl) ?_
  refine lv_bipush (v := (40 : Int32)) hx hb dX7_putFunction_70 (by decide) ?_
  obtain ⟨r_2, hr_2, hf⟩ := obd hf
  refine cWvV (As := [.int (40 : Int32)]) (rest := []) (W1 := ((wMd cA qM r_2))) ⟨hx, hb, hml, hown, hts⟩ (m_X7_put l G cA qM r_1 (40 : Int32) r_2 hr_2) (cw_X7_put hts wi_818 ⟨Nat.le_of_ble_eq_true rfl, Nat.le_of_ble_eq_true rfl⟩) hK hP hD hS [0, 1, 2, 3, 4] [5, 6, 7, 8, 9] rfl rfl rfl (by decide) rfl va_Pnil dj_nil (va_recv hK.1 hP (ci := 5) (q0 := 0) rfl rfl) rfl hl.1 rfl (Nat.le_of_ble_eq_true rfl) dX7_putFunction_72 ⟨Nat.zero_le _, Nat.zero_le _⟩ (fun H locs hP hD hS => ?_)
  refine lv_iload_n hx hb dX7_putFunction_75 rfl (lv_at hl 1 rfl) ?_
  refine lv_if_ge (tgt := 85) hx hb dX7_putFunction_76 (by decide) (fun c_3 => ?_) (fun c_3 => ?_)
  · rw [if_pos (c_3)] at hf
    exact b_X7_putFunction_85 qM   C0  r_2 x3 H locs ls hP hD hS (lv_sub hl [0, 1] rfl) hf
  · rw [if_neg (c_3)] at hf
    refine lv_aload_n hx hb dX7_putFunction_79 rfl (lv_at hl 0 rfl) ?_
    refine lv_bipush (v := (45 : Int32)) hx hb dX7_putFunction_80 (by decide) ?_
    obtain ⟨r_4, hr_4, hf⟩ := obd hf
    refine cWvV (As := [.int (45 : Int32)]) (rest := []) (W1 := ((wMd cA qM r_4))) ⟨hx, hb, hml, hown, hts⟩ (m_X7_put l G cA qM r_2 (45 : Int32) r_4 hr_4) (cw_X7_put hts wi_818 ⟨Nat.le_of_ble_eq_true rfl, Nat.le_of_ble_eq_true rfl⟩) hK hP hD hS [0, 1, 2, 3, 4] [5, 6, 7, 8, 9] rfl rfl rfl (by decide) rfl va_Pnil dj_nil (va_recv hK.1 hP (ci := 5) (q0 := 0) rfl rfl) rfl hl.1 rfl (Nat.le_of_ble_eq_true rfl) dX7_putFunction_82 ⟨Nat.zero_le _, Nat.zero_le _⟩ (fun H locs hP hD hS => ?_)
    exact b_X7_putFunction_85 qM   C0  r_4 x3 H locs ls hP hD hS (lv_sub hl [0, 1] rfl) hf
def f_X7_putFunction_38 (zM : MdS) (x2 : Int32) (x3 : Int32) : Option (MdS) := if x2 ≤ (1 : Int32) then some zM else if ¬ x2 = (2 : Int32) then if ¬ x2 = (3 : Int32) then f_X7_putFunction_66  zM x3 (99 : Int32) else f_X7_putFunction_66  zM x3 (115 : Int32) else f_X7_putFunction_66  zM x3 (101 : Int32)
set_option maxHeartbeats 4000000 in
set_option maxRecDepth 100000 in
theorem b_X7_putFunction_38 {p : Program} {l : Launch} {e : Env} {s : State} {m : MethodId} {args : Array Value} {below : List Frame} {meth : Method} {c : Code} {G : va_G} {cA : Nat → ClassId} {W9 : va_W} (qM : Nat → Nat) (C0 : Amb p s m args meth c cX7_putFunction RX7 5 none G cA (adr W9) []) {res : MdS} : ∀ (zM : MdS) (x2 : Int32) (x3 : Int32) (H : Heap) (locs : List Loc) (ls : Array Slot), va_P G vwCl ((wMd cA qM zM)) H → va_D (adr W9) ((wMd cA qM zM)) → va_S (adr W9) s.heap H locs → lv_has ls 5 [(0, .ref (qM 0)), (2, .int x2), (3, .int x3)] → f_X7_putFunction_38 zM x2 x3 = some res → W p l e rm_X7_putFunction s m args below meth c H locs 0 0 (MQ below (qWv G W9 ((wMd cA qM res))) args s 0 0 (adr W9)) (F0 m 38 ls []) := by
  obtain ⟨hx, hb, hr, hml, hown, hts, hlocks, hK, hR, hRA⟩ := id C0
  intro zM x2 x3 H locs ls hP hD hS hl hf
  unfold f_X7_putFunction_38 at hf
  refine lv_iload_n hx hb dX7_putFunction_38 rfl (lv_at hl 1 rfl) ?_
  refine lv_iconst (v := 1) hx hb dX7_putFunction_39 (by decide) ?_
  refine lv_icmp_le (tgt := 122) hx hb dX7_putFunction_40 (by decide) (fun c_1 => ?_) (fun c_1 => ?_)
  · rw [if_pos (c_1)] at hf
    cases hf
    exact W.vret hx hb hr (fun t ht hW => ⟨⟨(), rfl, trivial, toT ht hP⟩, hS.F ht⟩) hS.2.2 dX7_putFunction_122 hlocks
  · rw [if_neg (c_1)] at hf
    refine lv_aload_n hx hb dX7_putFunction_43 rfl (lv_at hl 0 rfl) ?_
    refine lv_iload_n hx hb dX7_putFunction_44 rfl (lv_at hl 1 rfl) ?_
    refine lv_iconst (v := 2) hx hb dX7_putFunction_45 (by decide) ?_
    refine lv_icmp_ne (tgt := 54) hx hb dX7_putFunction_46 (by decide) (fun c_2 => ?_) (fun c_2 => ?_)
    · rw [if_pos (c_2)] at hf
      refine lv_iload_n hx hb dX7_putFunction_54 rfl (lv_at hl 1 rfl) ?_
      refine lv_iconst (v := 3) hx hb dX7_putFunction_55 (by decide) ?_
      refine lv_icmp_ne (tgt := 64) hx hb dX7_putFunction_56 (by decide) (fun c_3 => ?_) (fun c_3 => ?_)
      · rw [if_pos (c_3)] at hf
        refine lv_bipush (v := (99 : Int32)) hx hb dX7_putFunction_64 (by decide) ?_
        exact b_X7_putFunction_66 qM   C0  zM x3 (99 : Int32) H locs ls hP hD hS (lv_sub hl [0, 2] rfl) hf
      · rw [if_neg (not_not_intro c_3)] at hf
        refine lv_bipush (v := (115 : Int32)) hx hb dX7_putFunction_59 (by decide) ?_
        refine lv_goto (tgt := 66) hx hb dX7_putFunction_61 (by decide) ?_
        exact b_X7_putFunction_66 qM   C0  zM x3 (115 : Int32) H locs ls hP hD hS (lv_sub hl [0, 2] rfl) hf
    · rw [if_neg (not_not_intro c_2)] at hf
      refine lv_bipush (v := (101 : Int32)) hx hb dX7_putFunction_49 (by decide) ?_
      refine lv_goto (tgt := 66) hx hb dX7_putFunction_51 (by decide) ?_
      exact b_X7_putFunction_66 qM   C0  zM x3 (101 : Int32) H locs ls hP hD hS (lv_sub hl [0, 2] rfl) hf
def f_X7_putFunction (zM : MdS) (a1 : Int32) : Option (MdS) := (f_X7_kindOf a1).bind fun r_1 => (f_X7_countOf a1).bind fun r_2 => if ¬ r_1 = (1 : Int32) then f_X7_putFunction_38  zM r_1 r_2 else (f_X7_put zM (108 : Int32)).bind fun r_4 => if r_2 ≤ (1 : Int32) then f_X7_putFunction_38  r_4 r_1 r_2 else (f_X7_put r_4 (94 : Int32)).bind fun r_6 => (f_X7_putNumber r_6 r_2.toInt64).bind fun r_7 => f_X7_putFunction_38  r_7 r_1 r_2
set_option maxHeartbeats 4000000 in
set_option maxRecDepth 100000 in
theorem b_X7_putFunction_0 {p : Program} {l : Launch} {e : Env} {s : State} {m : MethodId} {args : Array Value} {below : List Frame} {meth : Method} {c : Code} {G : va_G} {cA : Nat → ClassId} {W9 : va_W} (qM : Nat → Nat) (C0 : Amb p s m args meth c cX7_putFunction RX7 5 none G cA (adr W9) []) {res : MdS} : ∀ (zM : MdS) (a1 : Int32) (H : Heap) (locs : List Loc) (ls : Array Slot), va_P G vwCl ((wMd cA qM zM)) H → va_D (adr W9) ((wMd cA qM zM)) → va_S (adr W9) s.heap H locs → lv_has ls 5 [(0, .ref (qM 0)), (1, .int a1)] → f_X7_putFunction zM a1 = some res → W p l e rm_X7_putFunction s m args below meth c H locs 0 0 (MQ below (qWv G W9 ((wMd cA qM res))) args s 0 0 (adr W9)) (F0 m 0 ls []) := by
  obtain ⟨hx, hb, hr, hml, hown, hts, hlocks, hK, hR, hRA⟩ := id C0
  intro zM a1 H locs ls hP hD hS hl hf
  unfold f_X7_putFunction at hf
  refine lv_iload_n hx hb dX7_putFunction_0 rfl (lv_at hl 1 rfl) ?_
  obtain ⟨r_1, hr_1, hf⟩ := obd hf
  refine cRiS (As := [.int a1]) (rest := []) ⟨hx, hb, hml, hown, hts⟩ (m_X7_kindOf l G cA a1 r_1 hr_1) (cw_X7_kindOf hts wi_833 ⟨Nat.le_of_ble_eq_true rfl, Nat.le_of_ble_eq_true rfl⟩) hK va_Pnil rfl hl.1 rfl (Nat.le_of_ble_eq_true rfl) dX7_putFunction_1 ⟨Nat.zero_le _, Nat.zero_le _⟩ ?_
  refine lv_istore_n (lv' := [(2, .int r_1), (0, .ref (qM 0)), (1, .int a1)]) hx hb dX7_putFunction_4 rfl hl (by decide) rfl (fun ls hl => ?_)
  refine lv_iload_n hx hb dX7_putFunction_5 rfl (lv_at hl 2 rfl) ?_
  obtain ⟨r_2, hr_2, hf⟩ := obd hf
  refine cRiS (As := [.int a1]) (rest := []) ⟨hx, hb, hml, hown, hts⟩ (m_X7_countOf l G cA a1 r_2 hr_2) (cw_X7_countOf hts wi_836 ⟨Nat.le_of_ble_eq_true rfl, Nat.le_of_ble_eq_true rfl⟩) hK va_Pnil rfl hl.1 rfl (Nat.le_of_ble_eq_true rfl) dX7_putFunction_6 ⟨Nat.zero_le _, Nat.zero_le _⟩ ?_
  refine lv_istore_n (lv' := [(3, .int r_2), (2, .int r_1), (0, .ref (qM 0)), (1, .int a1)]) hx hb dX7_putFunction_9 rfl hl (by decide) rfl (fun ls hl => ?_)
  refine lv_iload_n hx hb dX7_putFunction_10 rfl (lv_at hl 1 rfl) ?_
  refine lv_iconst (v := 1) hx hb dX7_putFunction_11 (by decide) ?_
  refine lv_icmp_ne (tgt := 38) hx hb dX7_putFunction_12 (by decide) (fun c_3 => ?_) (fun c_3 => ?_)
  · rw [if_pos (c_3)] at hf
    exact b_X7_putFunction_38 qM   C0  zM r_1 r_2 H locs ls hP hD hS (lv_sub hl [2, 1, 0] rfl) hf
  · rw [if_neg (not_not_intro c_3)] at hf
    refine lv_aload_n hx hb dX7_putFunction_15 rfl (lv_at hl 2 rfl) ?_
    refine lv_bipush (v := (108 : Int32)) hx hb dX7_putFunction_16 (by decide) ?_
    obtain ⟨r_4, hr_4, hf⟩ := obd hf
    refine cWvV (As := [.int (108 : Int32)]) (rest := []) (W1 := ((wMd cA qM r_4))) ⟨hx, hb, hml, hown, hts⟩ (m_X7_put l G cA qM zM (108 : Int32) r_4 hr_4) (cw_X7_put hts wi_818 ⟨Nat.le_of_ble_eq_true rfl, Nat.le_of_ble_eq_true rfl⟩) hK hP hD hS [0, 1, 2, 3, 4] [5, 6, 7, 8, 9] rfl rfl rfl (by decide) rfl va_Pnil dj_nil (va_recv hK.1 hP (ci := 5) (q0 := 0) rfl rfl) rfl hl.1 rfl (Nat.le_of_ble_eq_true rfl) dX7_putFunction_18 ⟨Nat.zero_le _, Nat.zero_le _⟩ (fun H locs hP hD hS => ?_)
    refine lv_iload_n hx hb dX7_putFunction_21 rfl (lv_at hl 0 rfl) ?_
    refine lv_iconst (v := 1) hx hb dX7_putFunction_22 (by decide) ?_
    refine lv_icmp_le (tgt := 38) hx hb dX7_putFunction_23 (by decide) (fun c_5 => ?_) (fun c_5 => ?_)
    · rw [if_pos (c_5)] at hf
      exact b_X7_putFunction_38 qM   C0  r_4 r_1 r_2 H locs ls hP hD hS (lv_sub hl [2, 1, 0] rfl) hf
    · rw [if_neg (c_5)] at hf
      refine lv_aload_n hx hb dX7_putFunction_26 rfl (lv_at hl 2 rfl) ?_
      refine lv_bipush (v := (94 : Int32)) hx hb dX7_putFunction_27 (by decide) ?_
      obtain ⟨r_6, hr_6, hf⟩ := obd hf
      refine cWvV (As := [.int (94 : Int32)]) (rest := []) (W1 := ((wMd cA qM r_6))) ⟨hx, hb, hml, hown, hts⟩ (m_X7_put l G cA qM r_4 (94 : Int32) r_6 hr_6) (cw_X7_put hts wi_818 ⟨Nat.le_of_ble_eq_true rfl, Nat.le_of_ble_eq_true rfl⟩) hK hP hD hS [0, 1, 2, 3, 4] [5, 6, 7, 8, 9] rfl rfl rfl (by decide) rfl va_Pnil dj_nil (va_recv hK.1 hP (ci := 5) (q0 := 0) rfl rfl) rfl hl.1 rfl (Nat.le_of_ble_eq_true rfl) dX7_putFunction_29 ⟨Nat.zero_le _, Nat.zero_le _⟩ (fun H locs hP hD hS => ?_)
      refine lv_aload_n hx hb dX7_putFunction_32 rfl (lv_at hl 2 rfl) ?_
      refine lv_iload_n hx hb dX7_putFunction_33 rfl (lv_at hl 0 rfl) ?_
      refine lv_i2l (v := r_2.toInt64) hx hb dX7_putFunction_34 rfl ?_
      obtain ⟨r_7, hr_7, hf⟩ := obd hf
      refine cWvV (As := [.long r_2.toInt64]) (rest := []) (W1 := ((wMd cA qM r_7))) ⟨hx, hb, hml, hown, hts⟩ (m_X7_putNumber l G cA qM r_6 r_2.toInt64 r_7 hr_7) (cw_X7_putNumber hts wi_822 ⟨Nat.le_of_ble_eq_true rfl, Nat.le_of_ble_eq_true rfl⟩) hK hP hD hS [0, 1, 2, 3, 4] [5, 6, 7, 8, 9] rfl rfl rfl (by decide) rfl va_Pnil dj_nil (va_recv hK.1 hP (ci := 5) (q0 := 0) rfl rfl) rfl hl.1 rfl (Nat.le_of_ble_eq_true rfl) dX7_putFunction_35 ⟨Nat.zero_le _, Nat.zero_le _⟩ (fun H locs hP hD hS => ?_)
      exact b_X7_putFunction_38 qM   C0  r_7 r_1 r_2 H locs ls hP hD hS (lv_sub hl [2, 1, 0] rfl) hf

set_option maxRecDepth 100000 in
theorem m_X7_putFunction (l : Launch) (G : va_G) (cA : Nat → ClassId) (qM : Nat → Nat) (zM : MdS) (a1 : Int32) (res : MdS) (hf : f_X7_putFunction zM a1 = some res) : MWv l yX7_putFunction (.code yX7_putFunction cX7_putFunction 5 none :: wd) rm_X7_putFunction G cA [.ref (qM 0), .int a1] ((wMd cA qM zM)) [] ((wMd cA qM res)) := by
  refine Met.ofW (cc := cX7_putFunction) (maxL := 5) (ret := none) (by decide) rfl ?_
  intro p e s m args below meth c s₁ B hml hv
  obtain ⟨rfl, hK, hP, hD0, hR, hRA⟩ := hv
  have C0 : Amb p s m ([.ref (qM 0), .int a1] : List Value).toArray meth c cX7_putFunction RX7 5 none G cA (adr ((wMd cA qM zM))) [] := ⟨B.exec, B.bytes, B.returns, hml, findClass_of_methodNamed B.named, fun w h => atoms_spec (ws := (.code yX7_putFunction cX7_putFunction 5 none :: wd)) B.pre w (List.mem_cons_of_mem _ h), B.notSynchronized, hK, hR, hRA⟩
  have hl := lv_entry ([.ref (qM 0), .int a1]) (n := 5) (Nat.le_of_ble_eq_true rfl)
  rw [lg_entry_eq]
  generalize (lg_sl ([.ref (qM 0), .int a1]) ++ List.replicate (5 - (lg_sl ([.ref (qM 0), .int a1])).length) Slot.unset).toArray = ls at hl ⊢
  have hl : lv_has ls 5 [(0, .ref (qM 0)), (1, .int a1)] := hl
  exact b_X7_putFunction_0 (W9 := ((wMd cA qM zM))) qM   C0 zM a1 s.heap [] ls hP (adr.self hD0) va_S.rf hl hf
theorem cw_X7_putFunction {R : Room} {s : State} {args : Array Value} {own : String} {index : Nat} (ht : ∀ w ∈ wd, w.before args s = true) (hlink : Cond.methodLink own index yX7_putFunction ∈ wd) (hR : rm_X7_putFunction.frames + 1 ≤ R.frames ∧ 8 + (5 + 11) + rm_X7_putFunction.locals ≤ R.locals) : CallW R s args own RX7 index yX7_putFunction cX7_putFunction 5 none (.code yX7_putFunction cX7_putFunction 5 none :: wd) rm_X7_putFunction 0 0 1 := cwV9 1 ht wi_832 wi_831 wi_47 wi_60 hlink (by decide +kernel) rfl rfl hR
