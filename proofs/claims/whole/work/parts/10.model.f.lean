def rm_X7_putTerm : Room := { frames := 3, cells := 0, slots := 0, locals := 71 }
def f_X7_putTerm_140 (zM : MdS) (x1 : Int32) : Option (MdS) := (f_X7_putFunction zM x1).bind fun r_1 => some r_1
set_option maxHeartbeats 4000000 in
set_option maxRecDepth 100000 in
theorem b_X7_putTerm_140 {p : Program} {l : Launch} {e : Env} {s : State} {m : MethodId} {args : Array Value} {below : List Frame} {meth : Method} {c : Code} {G : va_G} {cA : Nat → ClassId} {W9 : va_W} (qM : Nat → Nat) (C0 : Amb p s m args meth c cX7_putTerm RX7 9 none G cA (adr W9) []) {res : MdS} : ∀ (zM : MdS) (x1 : Int32) (H : Heap) (locs : List Loc) (ls : Array Slot), va_P G vwCl ((wMd cA qM zM)) H → va_D (adr W9) ((wMd cA qM zM)) → va_S (adr W9) s.heap H locs → lv_has ls 9 [(0, .ref (qM 0)), (1, .int x1)] → f_X7_putTerm_140 zM x1 = some res → W p l e rm_X7_putTerm s m args below meth c H locs 0 0 (MQ below (qWv G W9 ((wMd cA qM res))) args s 0 0 (adr W9)) (F0 m 140 ls []) := by
  obtain ⟨hx, hb, hr, hml, hown, hts, hlocks, hK, hR, hRA⟩ := id C0
  intro zM x1 H locs ls hP hD hS hl hf
  unfold f_X7_putTerm_140 at hf
  refine lv_aload_n hx hb dX7_putTerm_140 rfl (lv_at hl 0 rfl) ?_
  refine lv_iload_n hx hb dX7_putTerm_141 rfl (lv_at hl 1 rfl) ?_
  obtain ⟨r_1, hr_1, hf⟩ := obd hf
  refine cWvV (As := [.int x1]) (rest := []) (W1 := ((wMd cA qM r_1))) ⟨hx, hb, hml, hown, hts⟩ (m_X7_putFunction l G cA qM zM x1 r_1 hr_1) (cw_X7_putFunction hts wi_829 ⟨Nat.le_of_ble_eq_true rfl, Nat.le_of_ble_eq_true rfl⟩) hK hP hD hS [0, 1, 2, 3, 4] [5, 6, 7, 8, 9] rfl rfl rfl (by decide) rfl va_Pnil dj_nil (va_recv hK.1 hP (ci := 5) (q0 := 0) rfl rfl) rfl hl.1 rfl (Nat.le_of_ble_eq_true rfl) dX7_putTerm_142 ⟨Nat.zero_le _, Nat.zero_le _⟩ (fun H locs hP hD hS => ?_)
  cases hf
  exact W.vret hx hb hr (fun t ht hW => ⟨⟨(), rfl, trivial, toT ht hP⟩, hS.F ht⟩) hS.2.2 dX7_putTerm_145 hlocks
def f_X7_putTerm_137 (zM : MdS) (x1 : Int32) (v1 : Int64) : Option (MdS) := (f_X7_putNumber zM v1).bind fun r_1 => f_X7_putTerm_140  r_1 x1
set_option maxHeartbeats 4000000 in
set_option maxRecDepth 100000 in
theorem b_X7_putTerm_137 {p : Program} {l : Launch} {e : Env} {s : State} {m : MethodId} {args : Array Value} {below : List Frame} {meth : Method} {c : Code} {G : va_G} {cA : Nat → ClassId} {W9 : va_W} (qM : Nat → Nat) (C0 : Amb p s m args meth c cX7_putTerm RX7 9 none G cA (adr W9) []) {res : MdS} : ∀ (zM : MdS) (x1 : Int32) (v1 : Int64) (H : Heap) (locs : List Loc) (ls : Array Slot), va_P G vwCl ((wMd cA qM zM)) H → va_D (adr W9) ((wMd cA qM zM)) → va_S (adr W9) s.heap H locs → lv_has ls 9 [(0, .ref (qM 0)), (1, .int x1)] → f_X7_putTerm_137 zM x1 v1 = some res → W p l e rm_X7_putTerm s m args below meth c H locs 0 0 (MQ below (qWv G W9 ((wMd cA qM res))) args s 0 0 (adr W9)) (F0 m 137 ls [.long v1, .ref (qM 0)]) := by
  obtain ⟨hx, hb, hr, hml, hown, hts, hlocks, hK, hR, hRA⟩ := id C0
  intro zM x1 v1 H locs ls hP hD hS hl hf
  unfold f_X7_putTerm_137 at hf
  obtain ⟨r_1, hr_1, hf⟩ := obd hf
  refine cWvV (As := [.long v1]) (rest := []) (W1 := ((wMd cA qM r_1))) ⟨hx, hb, hml, hown, hts⟩ (m_X7_putNumber l G cA qM zM v1 r_1 hr_1) (cw_X7_putNumber hts wi_822 ⟨Nat.le_of_ble_eq_true rfl, Nat.le_of_ble_eq_true rfl⟩) hK hP hD hS [0, 1, 2, 3, 4] [5, 6, 7, 8, 9] rfl rfl rfl (by decide) rfl va_Pnil dj_nil (va_recv hK.1 hP (ci := 5) (q0 := 0) rfl rfl) rfl hl.1 rfl (Nat.le_of_ble_eq_true rfl) dX7_putTerm_137 ⟨Nat.zero_le _, Nat.zero_le _⟩ (fun H locs hP hD hS => ?_)
  exact b_X7_putTerm_140 qM   C0  r_1 x1 H locs ls hP hD hS (lv_sub hl [0, 1] rfl) hf
def f_X7_putTerm_124 (zM : MdS) (x1 : Int32) (x2 : Int32) : Option (MdS) := if 0 ≤ x2 then f_X7_putTerm_137  zM x1 x2.toInt64 else f_X7_putTerm_137  zM x1 ((-x2).toInt64)
set_option maxHeartbeats 4000000 in
set_option maxRecDepth 100000 in
theorem b_X7_putTerm_124 {p : Program} {l : Launch} {e : Env} {s : State} {m : MethodId} {args : Array Value} {below : List Frame} {meth : Method} {c : Code} {G : va_G} {cA : Nat → ClassId} {W9 : va_W} (qM : Nat → Nat) (C0 : Amb p s m args meth c cX7_putTerm RX7 9 none G cA (adr W9) []) {res : MdS} : ∀ (zM : MdS) (x1 : Int32) (x2 : Int32) (H : Heap) (locs : List Loc) (ls : Array Slot), va_P G vwCl ((wMd cA qM zM)) H → va_D (adr W9) ((wMd cA qM zM)) → va_S (adr W9) s.heap H locs → lv_has ls 9 [(0, .ref (qM 0)), (1, .int x1), (2, .int x2)] → f_X7_putTerm_124 zM x1 x2 = some res → W p l e rm_X7_putTerm s m args below meth c H locs 0 0 (MQ below (qWv G W9 ((wMd cA qM res))) args s 0 0 (adr W9)) (F0 m 124 ls []) := by
  obtain ⟨hx, hb, hr, hml, hown, hts, hlocks, hK, hR, hRA⟩ := id C0
  intro zM x1 x2 H locs ls hP hD hS hl hf
  unfold f_X7_putTerm_124 at hf
  refine lv_aload_n hx hb dX7_putTerm_124 rfl (lv_at hl 0 rfl) ?_
  refine lv_iload_n hx hb dX7_putTerm_125 rfl (lv_at hl 2 rfl) ?_
  refine lv_if_ge (tgt := 135) hx hb dX7_putTerm_126 (by decide) (fun c_1 => ?_) (fun c_1 => ?_)
  · rw [if_pos (c_1)] at hf
    refine lv_iload_n hx hb dX7_putTerm_135 rfl (lv_at hl 2 rfl) ?_
    refine lv_i2l (v := x2.toInt64) hx hb dX7_putTerm_136 rfl ?_
    exact b_X7_putTerm_137 qM   C0  zM x1 x2.toInt64 H locs ls hP hD hS (lv_sub hl [0, 1] rfl) hf
  · rw [if_neg (c_1)] at hf
    refine lv_iload_n hx hb dX7_putTerm_129 rfl (lv_at hl 2 rfl) ?_
    refine lv_ineg hx hb dX7_putTerm_130 ?_
    refine lv_i2l (v := (-x2).toInt64) hx hb dX7_putTerm_131 rfl ?_
    refine lv_goto (tgt := 137) hx hb dX7_putTerm_132 (by decide) ?_
    exact b_X7_putTerm_137 qM   C0  zM x1 ((-x2).toInt64) H locs ls hP hD hS (lv_sub hl [0, 1] rfl) hf
def f_X7_putTerm_99 (zM : MdS) (x1 : Int32) (x2 : Int32) : Option (MdS) := if x2 = 0 then f_X7_putTerm_140  zM x1 else if x2 = (1 : Int32) then f_X7_putTerm_140  zM x1 else (f_X7_put zM (94 : Int32)).bind fun r_3 => if 0 ≤ x2 then f_X7_putTerm_124  r_3 x1 x2 else (f_X7_put r_3 (45 : Int32)).bind fun r_5 => f_X7_putTerm_124  r_5 x1 x2
set_option maxHeartbeats 4000000 in
set_option maxRecDepth 100000 in
theorem b_X7_putTerm_99 {p : Program} {l : Launch} {e : Env} {s : State} {m : MethodId} {args : Array Value} {below : List Frame} {meth : Method} {c : Code} {G : va_G} {cA : Nat → ClassId} {W9 : va_W} (qM : Nat → Nat) (C0 : Amb p s m args meth c cX7_putTerm RX7 9 none G cA (adr W9) []) {res : MdS} : ∀ (zM : MdS) (x1 : Int32) (x2 : Int32) (H : Heap) (locs : List Loc) (ls : Array Slot), va_P G vwCl ((wMd cA qM zM)) H → va_D (adr W9) ((wMd cA qM zM)) → va_S (adr W9) s.heap H locs → lv_has ls 9 [(0, .ref (qM 0)), (1, .int x1), (2, .int x2)] → f_X7_putTerm_99 zM x1 x2 = some res → W p l e rm_X7_putTerm s m args below meth c H locs 0 0 (MQ below (qWv G W9 ((wMd cA qM res))) args s 0 0 (adr W9)) (F0 m 99 ls []) := by
  obtain ⟨hx, hb, hr, hml, hown, hts, hlocks, hK, hR, hRA⟩ := id C0
  intro zM x1 x2 H locs ls hP hD hS hl hf
  unfold f_X7_putTerm_99 at hf
  refine lv_iload_n hx hb dX7_putTerm_99 rfl (lv_at hl 2 rfl) ?_
  refine lv_if_eq (tgt := 140) hx hb dX7_putTerm_100 (by decide) (fun c_1 => ?_) (fun c_1 => ?_)
  · rw [if_pos (c_1)] at hf
    exact b_X7_putTerm_140 qM   C0  zM x1 H locs ls hP hD hS (lv_sub hl [0, 1] rfl) hf
  · rw [if_neg (c_1)] at hf
    refine lv_iload_n hx hb dX7_putTerm_103 rfl (lv_at hl 2 rfl) ?_
    refine lv_iconst (v := 1) hx hb dX7_putTerm_104 (by decide) ?_
    refine lv_icmp_eq (tgt := 140) hx hb dX7_putTerm_105 (by decide) (fun c_2 => ?_) (fun c_2 => ?_)
    · rw [if_pos (c_2)] at hf
      exact b_X7_putTerm_140 qM   C0  zM x1 H locs ls hP hD hS (lv_sub hl [0, 1] rfl) hf
    · rw [if_neg (c_2)] at hf
      refine lv_aload_n hx hb dX7_putTerm_108 rfl (lv_at hl 0 rfl) ?_
      refine lv_bipush (v := (94 : Int32)) hx hb dX7_putTerm_109 (by decide) ?_
      obtain ⟨r_3, hr_3, hf⟩ := obd hf
      refine cWvV (As := [.int (94 : Int32)]) (rest := []) (W1 := ((wMd cA qM r_3))) ⟨hx, hb, hml, hown, hts⟩ (m_X7_put l G cA qM zM (94 : Int32) r_3 hr_3) (cw_X7_put hts wi_818 ⟨Nat.le_of_ble_eq_true rfl, Nat.le_of_ble_eq_true rfl⟩) hK hP hD hS [0, 1, 2, 3, 4] [5, 6, 7, 8, 9] rfl rfl rfl (by decide) rfl va_Pnil dj_nil (va_recv hK.1 hP (ci := 5) (q0 := 0) rfl rfl) rfl hl.1 rfl (Nat.le_of_ble_eq_true rfl) dX7_putTerm_111 ⟨Nat.zero_le _, Nat.zero_le _⟩ (fun H locs hP hD hS => ?_)
      refine lv_iload_n hx hb dX7_putTerm_114 rfl (lv_at hl 2 rfl) ?_
      refine lv_if_ge (tgt := 124) hx hb dX7_putTerm_115 (by decide) (fun c_4 => ?_) (fun c_4 => ?_)
      · rw [if_pos (c_4)] at hf
        exact b_X7_putTerm_124 qM   C0  r_3 x1 x2 H locs ls hP hD hS (lv_sub hl [0, 1, 2] rfl) hf
      · rw [if_neg (c_4)] at hf
        refine lv_aload_n hx hb dX7_putTerm_118 rfl (lv_at hl 0 rfl) ?_
        refine lv_bipush (v := (45 : Int32)) hx hb dX7_putTerm_119 (by decide) ?_
        obtain ⟨r_5, hr_5, hf⟩ := obd hf
        refine cWvV (As := [.int (45 : Int32)]) (rest := []) (W1 := ((wMd cA qM r_5))) ⟨hx, hb, hml, hown, hts⟩ (m_X7_put l G cA qM r_3 (45 : Int32) r_5 hr_5) (cw_X7_put hts wi_818 ⟨Nat.le_of_ble_eq_true rfl, Nat.le_of_ble_eq_true rfl⟩) hK hP hD hS [0, 1, 2, 3, 4] [5, 6, 7, 8, 9] rfl rfl rfl (by decide) rfl va_Pnil dj_nil (va_recv hK.1 hP (ci := 5) (q0 := 0) rfl rfl) rfl hl.1 rfl (Nat.le_of_ble_eq_true rfl) dX7_putTerm_121 ⟨Nat.zero_le _, Nat.zero_le _⟩ (fun H locs hP hD hS => ?_)
        exact b_X7_putTerm_124 qM   C0  r_5 x1 x2 H locs ls hP hD hS (lv_sub hl [0, 1, 2] rfl) hf
def f_X7_putTerm_89 (zM : MdS) (x1 : Int32) (x2 : Int32) : Option (MdS) := if x2 = 0 then f_X7_putTerm_99  zM x1 x2 else (f_X7_put zM (120 : Int32)).bind fun r_2 => f_X7_putTerm_99  r_2 x1 x2
set_option maxHeartbeats 4000000 in
set_option maxRecDepth 100000 in
theorem b_X7_putTerm_89 {p : Program} {l : Launch} {e : Env} {s : State} {m : MethodId} {args : Array Value} {below : List Frame} {meth : Method} {c : Code} {G : va_G} {cA : Nat → ClassId} {W9 : va_W} (qM : Nat → Nat) (C0 : Amb p s m args meth c cX7_putTerm RX7 9 none G cA (adr W9) []) {res : MdS} : ∀ (zM : MdS) (x1 : Int32) (x2 : Int32) (H : Heap) (locs : List Loc) (ls : Array Slot), va_P G vwCl ((wMd cA qM zM)) H → va_D (adr W9) ((wMd cA qM zM)) → va_S (adr W9) s.heap H locs → lv_has ls 9 [(0, .ref (qM 0)), (1, .int x1), (2, .int x2)] → f_X7_putTerm_89 zM x1 x2 = some res → W p l e rm_X7_putTerm s m args below meth c H locs 0 0 (MQ below (qWv G W9 ((wMd cA qM res))) args s 0 0 (adr W9)) (F0 m 89 ls []) := by
  obtain ⟨hx, hb, hr, hml, hown, hts, hlocks, hK, hR, hRA⟩ := id C0
  intro zM x1 x2 H locs ls hP hD hS hl hf
  unfold f_X7_putTerm_89 at hf
  refine lv_iload_n hx hb dX7_putTerm_89 rfl (lv_at hl 2 rfl) ?_
  refine lv_if_eq (tgt := 99) hx hb dX7_putTerm_90 (by decide) (fun c_1 => ?_) (fun c_1 => ?_)
  · rw [if_pos (c_1)] at hf
    exact b_X7_putTerm_99 qM   C0  zM x1 x2 H locs ls hP hD hS (lv_sub hl [0, 1, 2] rfl) hf
  · rw [if_neg (c_1)] at hf
    refine lv_aload_n hx hb dX7_putTerm_93 rfl (lv_at hl 0 rfl) ?_
    refine lv_bipush (v := (120 : Int32)) hx hb dX7_putTerm_94 (by decide) ?_
    obtain ⟨r_2, hr_2, hf⟩ := obd hf
    refine cWvV (As := [.int (120 : Int32)]) (rest := []) (W1 := ((wMd cA qM r_2))) ⟨hx, hb, hml, hown, hts⟩ (m_X7_put l G cA qM zM (120 : Int32) r_2 hr_2) (cw_X7_put hts wi_818 ⟨Nat.le_of_ble_eq_true rfl, Nat.le_of_ble_eq_true rfl⟩) hK hP hD hS [0, 1, 2, 3, 4] [5, 6, 7, 8, 9] rfl rfl rfl (by decide) rfl va_Pnil dj_nil (va_recv hK.1 hP (ci := 5) (q0 := 0) rfl rfl) rfl hl.1 rfl (Nat.le_of_ble_eq_true rfl) dX7_putTerm_96 ⟨Nat.zero_le _, Nat.zero_le _⟩ (fun H locs hP hD hS => ?_)
    exact b_X7_putTerm_99 qM   C0  r_2 x1 x2 H locs ls hP hD hS (lv_sub hl [0, 1, 2] rfl) hf
def f_X7_putTerm_64 (zM : MdS) (x1 : Int32) (x2 : Int32) (x5 : Int64) (x7 : Int64) : Option (MdS) := (f_X7_putNumber zM x7).bind fun r_1 => if x5 = (1 : Int64) then f_X7_putTerm_89  r_1 x1 x2 else (f_X7_put r_1 (47 : Int32)).bind fun r_3 => (f_X7_putNumber r_3 x5).bind fun r_4 => f_X7_putTerm_89  r_4 x1 x2
set_option maxHeartbeats 4000000 in
set_option maxRecDepth 100000 in
theorem b_X7_putTerm_64 {p : Program} {l : Launch} {e : Env} {s : State} {m : MethodId} {args : Array Value} {below : List Frame} {meth : Method} {c : Code} {G : va_G} {cA : Nat → ClassId} {W9 : va_W} (qM : Nat → Nat) (C0 : Amb p s m args meth c cX7_putTerm RX7 9 none G cA (adr W9) []) {res : MdS} : ∀ (zM : MdS) (x1 : Int32) (x2 : Int32) (x5 : Int64) (x7 : Int64) (H : Heap) (locs : List Loc) (ls : Array Slot), va_P G vwCl ((wMd cA qM zM)) H → va_D (adr W9) ((wMd cA qM zM)) → va_S (adr W9) s.heap H locs → lv_has ls 9 [(0, .ref (qM 0)), (1, .int x1), (2, .int x2), (5, .long x5), (7, .long x7)] → f_X7_putTerm_64 zM x1 x2 x5 x7 = some res → W p l e rm_X7_putTerm s m args below meth c H locs 0 0 (MQ below (qWv G W9 ((wMd cA qM res))) args s 0 0 (adr W9)) (F0 m 64 ls []) := by
  obtain ⟨hx, hb, hr, hml, hown, hts, hlocks, hK, hR, hRA⟩ := id C0
  intro zM x1 x2 x5 x7 H locs ls hP hD hS hl hf
  unfold f_X7_putTerm_64 at hf
  refine lv_aload_n hx hb dX7_putTerm_64 rfl (lv_at hl 0 rfl) ?_
  refine lv_lload hx hb dX7_putTerm_65 (lv_at hl 4 rfl) ?_
  obtain ⟨r_1, hr_1, hf⟩ := obd hf
  refine cWvV (As := [.long x7]) (rest := []) (W1 := ((wMd cA qM r_1))) ⟨hx, hb, hml, hown, hts⟩ (m_X7_putNumber l G cA qM zM x7 r_1 hr_1) (cw_X7_putNumber hts wi_822 ⟨Nat.le_of_ble_eq_true rfl, Nat.le_of_ble_eq_true rfl⟩) hK hP hD hS [0, 1, 2, 3, 4] [5, 6, 7, 8, 9] rfl rfl rfl (by decide) rfl va_Pnil dj_nil (va_recv hK.1 hP (ci := 5) (q0 := 0) rfl rfl) rfl hl.1 rfl (Nat.le_of_ble_eq_true rfl) dX7_putTerm_67 ⟨Nat.zero_le _, Nat.zero_le _⟩ (fun H locs hP hD hS => ?_)
  refine lv_lload hx hb dX7_putTerm_70 (lv_at hl 3 rfl) ?_
  refine lv_lconst (v := (1 : Int64)) hx hb dX7_putTerm_72 (by decide) ?_
  refine W.lcmp hx hb dX7_putTerm_73 ?_
  refine lv_if_eq (tgt := 89) hx hb dX7_putTerm_74 (by decide) (fun c_2 => ?_) (fun c_2 => ?_)
  · rw [if_pos ((lg_cmp_eq _ _).mp c_2)] at hf
    exact b_X7_putTerm_89 qM   C0  r_1 x1 x2 H locs ls hP hD hS (lv_sub hl [0, 1, 2] rfl) hf
  · rw [if_neg (fun h => c_2 ((lg_cmp_eq _ _).mpr h))] at hf
    refine lv_aload_n hx hb dX7_putTerm_77 rfl (lv_at hl 0 rfl) ?_
    refine lv_bipush (v := (47 : Int32)) hx hb dX7_putTerm_78 (by decide) ?_
    obtain ⟨r_3, hr_3, hf⟩ := obd hf
    refine cWvV (As := [.int (47 : Int32)]) (rest := []) (W1 := ((wMd cA qM r_3))) ⟨hx, hb, hml, hown, hts⟩ (m_X7_put l G cA qM r_1 (47 : Int32) r_3 hr_3) (cw_X7_put hts wi_818 ⟨Nat.le_of_ble_eq_true rfl, Nat.le_of_ble_eq_true rfl⟩) hK hP hD hS [0, 1, 2, 3, 4] [5, 6, 7, 8, 9] rfl rfl rfl (by decide) rfl va_Pnil dj_nil (va_recv hK.1 hP (ci := 5) (q0 := 0) rfl rfl) rfl hl.1 rfl (Nat.le_of_ble_eq_true rfl) dX7_putTerm_80 ⟨Nat.zero_le _, Nat.zero_le _⟩ (fun H locs hP hD hS => ?_)
    refine lv_aload_n hx hb dX7_putTerm_83 rfl (lv_at hl 0 rfl) ?_
    refine lv_lload hx hb dX7_putTerm_84 (lv_at hl 3 rfl) ?_
    obtain ⟨r_4, hr_4, hf⟩ := obd hf
    refine cWvV (As := [.long x5]) (rest := []) (W1 := ((wMd cA qM r_4))) ⟨hx, hb, hml, hown, hts⟩ (m_X7_putNumber l G cA qM r_3 x5 r_4 hr_4) (cw_X7_putNumber hts wi_822 ⟨Nat.le_of_ble_eq_true rfl, Nat.le_of_ble_eq_true rfl⟩) hK hP hD hS [0, 1, 2, 3, 4] [5, 6, 7, 8, 9] rfl rfl rfl (by decide) rfl va_Pnil dj_nil (va_recv hK.1 hP (ci := 5) (q0 := 0) rfl rfl) rfl hl.1 rfl (Nat.le_of_ble_eq_true rfl) dX7_putTerm_86 ⟨Nat.zero_le _, Nat.zero_le _⟩ (fun H locs hP hD hS => ?_)
    exact b_X7_putTerm_89 qM   C0  r_4 x1 x2 H locs ls hP hD hS (lv_sub hl [0, 1, 2] rfl) hf
def f_X7_putTerm_40 (zM : MdS) (x1 : Int32) (x2 : Int32) (x5 : Int64) (v0 : Int64) : Option (MdS) := if ¬ v0 = (1 : Int64) then f_X7_putTerm_64  zM x1 x2 x5 v0 else if ¬ x5 = (1 : Int64) then f_X7_putTerm_64  zM x1 x2 x5 v0 else if ¬ x1 = 0 then f_X7_putTerm_89  zM x1 x2 else if ¬ x2 = 0 then f_X7_putTerm_89  zM x1 x2 else f_X7_putTerm_64  zM x1 x2 x5 v0
set_option maxHeartbeats 4000000 in
set_option maxRecDepth 100000 in
theorem b_X7_putTerm_40 {p : Program} {l : Launch} {e : Env} {s : State} {m : MethodId} {args : Array Value} {below : List Frame} {meth : Method} {c : Code} {G : va_G} {cA : Nat → ClassId} {W9 : va_W} (qM : Nat → Nat) (C0 : Amb p s m args meth c cX7_putTerm RX7 9 none G cA (adr W9) []) {res : MdS} : ∀ (zM : MdS) (x1 : Int32) (x2 : Int32) (x5 : Int64) (v0 : Int64) (H : Heap) (locs : List Loc) (ls : Array Slot), va_P G vwCl ((wMd cA qM zM)) H → va_D (adr W9) ((wMd cA qM zM)) → va_S (adr W9) s.heap H locs → lv_has ls 9 [(0, .ref (qM 0)), (1, .int x1), (2, .int x2), (5, .long x5)] → f_X7_putTerm_40 zM x1 x2 x5 v0 = some res → W p l e rm_X7_putTerm s m args below meth c H locs 0 0 (MQ below (qWv G W9 ((wMd cA qM res))) args s 0 0 (adr W9)) (F0 m 40 ls [.long v0]) := by
  obtain ⟨hx, hb, hr, hml, hown, hts, hlocks, hK, hR, hRA⟩ := id C0
  intro zM x1 x2 x5 v0 H locs ls hP hD hS hl hf
  unfold f_X7_putTerm_40 at hf
  refine lv_lstore (lv' := [(7, .long v0), (0, .ref (qM 0)), (1, .int x1), (2, .int x2), (5, .long x5)]) hx hb dX7_putTerm_40 hl (by decide) rfl (fun ls hl => ?_)
  refine lv_lload hx hb dX7_putTerm_42 (lv_at hl 0 rfl) ?_
  refine lv_lconst (v := (1 : Int64)) hx hb dX7_putTerm_44 (by decide) ?_
  refine W.lcmp hx hb dX7_putTerm_45 ?_
  refine lv_if_ne (tgt := 64) hx hb dX7_putTerm_46 (by decide) (fun c_1 => ?_) (fun c_1 => ?_)
  · rw [if_pos (fun h => c_1 ((lg_cmp_eq _ _).mpr h))] at hf
    exact b_X7_putTerm_64 qM   C0  zM x1 x2 x5 v0 H locs ls hP hD hS (lv_sub hl [1, 2, 3, 4, 0] rfl) hf
  · rw [if_neg (fun h => h ((lg_cmp_eq _ _).mp c_1))] at hf
    refine lv_lload hx hb dX7_putTerm_49 (lv_at hl 4 rfl) ?_
    refine lv_lconst (v := (1 : Int64)) hx hb dX7_putTerm_51 (by decide) ?_
    refine W.lcmp hx hb dX7_putTerm_52 ?_
    refine lv_if_ne (tgt := 64) hx hb dX7_putTerm_53 (by decide) (fun c_2 => ?_) (fun c_2 => ?_)
    · rw [if_pos (fun h => c_2 ((lg_cmp_eq _ _).mpr h))] at hf
      exact b_X7_putTerm_64 qM   C0  zM x1 x2 x5 v0 H locs ls hP hD hS (lv_sub hl [1, 2, 3, 4, 0] rfl) hf
    · rw [if_neg (fun h => h ((lg_cmp_eq _ _).mp c_2))] at hf
      refine lv_iload_n hx hb dX7_putTerm_56 rfl (lv_at hl 2 rfl) ?_
      refine lv_if_ne (tgt := 89) hx hb dX7_putTerm_57 (by decide) (fun c_3 => ?_) (fun c_3 => ?_)
      · rw [if_pos (c_3)] at hf
        exact b_X7_putTerm_89 qM   C0  zM x1 x2 H locs ls hP hD hS (lv_sub hl [1, 2, 3] rfl) hf
      · rw [if_neg (not_not_intro c_3)] at hf
        refine lv_iload_n hx hb dX7_putTerm_60 rfl (lv_at hl 3 rfl) ?_
        refine lv_if_ne (tgt := 89) hx hb dX7_putTerm_61 (by decide) (fun c_4 => ?_) (fun c_4 => ?_)
        · rw [if_pos (c_4)] at hf
          exact b_X7_putTerm_89 qM   C0  zM x1 x2 H locs ls hP hD hS (lv_sub hl [1, 2, 3] rfl) hf
        · rw [if_neg (not_not_intro c_4)] at hf
          exact b_X7_putTerm_64 qM   C0  zM x1 x2 x5 v0 H locs ls hP hD hS (lv_sub hl [1, 2, 3, 4, 0] rfl) hf
def f_X7_putTerm_28 (zM : MdS) (x1 : Int32) (x2 : Int32) (x3 : Int64) (x5 : Int64) : Option (MdS) := if (0 : Int64) ≤ x3 then f_X7_putTerm_40  zM x1 x2 x5 x3 else f_X7_putTerm_40  zM x1 x2 x5 (-x3)
set_option maxHeartbeats 4000000 in
set_option maxRecDepth 100000 in
theorem b_X7_putTerm_28 {p : Program} {l : Launch} {e : Env} {s : State} {m : MethodId} {args : Array Value} {below : List Frame} {meth : Method} {c : Code} {G : va_G} {cA : Nat → ClassId} {W9 : va_W} (qM : Nat → Nat) (C0 : Amb p s m args meth c cX7_putTerm RX7 9 none G cA (adr W9) []) {res : MdS} : ∀ (zM : MdS) (x1 : Int32) (x2 : Int32) (x3 : Int64) (x5 : Int64) (H : Heap) (locs : List Loc) (ls : Array Slot), va_P G vwCl ((wMd cA qM zM)) H → va_D (adr W9) ((wMd cA qM zM)) → va_S (adr W9) s.heap H locs → lv_has ls 9 [(0, .ref (qM 0)), (1, .int x1), (2, .int x2), (3, .long x3), (5, .long x5)] → f_X7_putTerm_28 zM x1 x2 x3 x5 = some res → W p l e rm_X7_putTerm s m args below meth c H locs 0 0 (MQ below (qWv G W9 ((wMd cA qM res))) args s 0 0 (adr W9)) (F0 m 28 ls []) := by
  obtain ⟨hx, hb, hr, hml, hown, hts, hlocks, hK, hR, hRA⟩ := id C0
  intro zM x1 x2 x3 x5 H locs ls hP hD hS hl hf
  unfold f_X7_putTerm_28 at hf
  refine lv_lload_n hx hb dX7_putTerm_28 rfl (lv_at hl 3 rfl) ?_
  refine lv_lconst (v := (0 : Int64)) hx hb dX7_putTerm_29 (by decide) ?_
  refine W.lcmp hx hb dX7_putTerm_30 ?_
  refine lv_if_ge (tgt := 39) hx hb dX7_putTerm_31 (by decide) (fun c_1 => ?_) (fun c_1 => ?_)
  · rw [if_pos ((lg_cmp_ge _ _).mp c_1)] at hf
    refine lv_lload_n hx hb dX7_putTerm_39 rfl (lv_at hl 3 rfl) ?_
    exact b_X7_putTerm_40 qM   C0  zM x1 x2 x5 x3 H locs ls hP hD hS (lv_sub hl [0, 1, 2, 4] rfl) hf
  · rw [if_neg (fun h => c_1 ((lg_cmp_ge _ _).mpr h))] at hf
    refine lv_lload_n hx hb dX7_putTerm_34 rfl (lv_at hl 3 rfl) ?_
    refine lv_lneg hx hb dX7_putTerm_35 ?_
    refine lv_goto (tgt := 40) hx hb dX7_putTerm_36 (by decide) ?_
    exact b_X7_putTerm_40 qM   C0  zM x1 x2 x5 (-x3) H locs ls hP hD hS (lv_sub hl [0, 1, 2, 4] rfl) hf
def f_X7_putTerm (zM : MdS) (a1 : Int32) (a2 : Int32) (a3 : Int64) (a5 : Int64) : Option (MdS) := if (0 : Int64) ≤ a3 then if (gM_outSize zM) ≤ 0 then f_X7_putTerm_28  zM a1 a2 a3 a5 else (f_X7_put zM (43 : Int32)).bind fun r_3 => f_X7_putTerm_28  r_3 a1 a2 a3 a5 else (f_X7_put zM (45 : Int32)).bind fun r_4 => f_X7_putTerm_28  r_4 a1 a2 a3 a5
set_option maxHeartbeats 4000000 in
set_option maxRecDepth 100000 in
theorem b_X7_putTerm_0 {p : Program} {l : Launch} {e : Env} {s : State} {m : MethodId} {args : Array Value} {below : List Frame} {meth : Method} {c : Code} {G : va_G} {cA : Nat → ClassId} {W9 : va_W} (qM : Nat → Nat) (C0 : Amb p s m args meth c cX7_putTerm RX7 9 none G cA (adr W9) []) {res : MdS} : ∀ (zM : MdS) (a1 : Int32) (a2 : Int32) (a3 : Int64) (a5 : Int64) (H : Heap) (locs : List Loc) (ls : Array Slot), va_P G vwCl ((wMd cA qM zM)) H → va_D (adr W9) ((wMd cA qM zM)) → va_S (adr W9) s.heap H locs → lv_has ls 9 [(0, .ref (qM 0)), (1, .int a1), (2, .int a2), (3, .long a3), (5, .long a5)] → f_X7_putTerm zM a1 a2 a3 a5 = some res → W p l e rm_X7_putTerm s m args below meth c H locs 0 0 (MQ below (qWv G W9 ((wMd cA qM res))) args s 0 0 (adr W9)) (F0 m 0 ls []) := by
  obtain ⟨hx, hb, hr, hml, hown, hts, hlocks, hK, hR, hRA⟩ := id C0
  intro zM a1 a2 a3 a5 H locs ls hP hD hS hl hf
  unfold f_X7_putTerm at hf
  refine lv_lload_n hx hb dX7_putTerm_0 rfl (lv_at hl 3 rfl) ?_
  refine lv_lconst (v := (0 : Int64)) hx hb dX7_putTerm_1 (by decide) ?_
  refine W.lcmp hx hb dX7_putTerm_2 ?_
  refine lv_if_ge (tgt := 15) hx hb dX7_putTerm_3 (by decide) (fun c_1 => ?_) (fun c_1 => ?_)
  · rw [if_pos ((lg_cmp_ge _ _).mp c_1)] at hf
    refine lv_aload_n hx hb dX7_putTerm_15 rfl (lv_at hl 0 rfl) ?_
    refine va_get (D := G) (ci := 5) (v := .int (gM_outSize zM)) (C := RX7) (T := TX7) (N := 13) hx hb hts fin_X7 hown hK.1 hP 0 rfl rfl 4 (by decide) (hts _ wi_675) (fun _ h9 => h9) rfl dX7_putTerm_16 ?_
    refine lv_if_le (tgt := 28) hx hb dX7_putTerm_19 (by decide) (fun c_2 => ?_) (fun c_2 => ?_)
    · rw [if_pos (c_2)] at hf
      exact b_X7_putTerm_28 qM   C0  zM a1 a2 a3 a5 H locs ls hP hD hS (lv_sub hl [0, 1, 2, 3, 4] rfl) hf
    · rw [if_neg (c_2)] at hf
      refine lv_aload_n hx hb dX7_putTerm_22 rfl (lv_at hl 0 rfl) ?_
      refine lv_bipush (v := (43 : Int32)) hx hb dX7_putTerm_23 (by decide) ?_
      obtain ⟨r_3, hr_3, hf⟩ := obd hf
      refine cWvV (As := [.int (43 : Int32)]) (rest := []) (W1 := ((wMd cA qM r_3))) ⟨hx, hb, hml, hown, hts⟩ (m_X7_put l G cA qM zM (43 : Int32) r_3 hr_3) (cw_X7_put hts wi_818 ⟨Nat.le_of_ble_eq_true rfl, Nat.le_of_ble_eq_true rfl⟩) hK hP hD hS [0, 1, 2, 3, 4] [5, 6, 7, 8, 9] rfl rfl rfl (by decide) rfl va_Pnil dj_nil (va_recv hK.1 hP (ci := 5) (q0 := 0) rfl rfl) rfl hl.1 rfl (Nat.le_of_ble_eq_true rfl) dX7_putTerm_25 ⟨Nat.zero_le _, Nat.zero_le _⟩ (fun H locs hP hD hS => ?_)
      exact b_X7_putTerm_28 qM   C0  r_3 a1 a2 a3 a5 H locs ls hP hD hS (lv_sub hl [0, 1, 2, 3, 4] rfl) hf
  · rw [if_neg (fun h => c_1 ((lg_cmp_ge _ _).mpr h))] at hf
    refine lv_aload_n hx hb dX7_putTerm_6 rfl (lv_at hl 0 rfl) ?_
    refine lv_bipush (v := (45 : Int32)) hx hb dX7_putTerm_7 (by decide) ?_
    obtain ⟨r_4, hr_4, hf⟩ := obd hf
    refine cWvV (As := [.int (45 : Int32)]) (rest := []) (W1 := ((wMd cA qM r_4))) ⟨hx, hb, hml, hown, hts⟩ (m_X7_put l G cA qM zM (45 : Int32) r_4 hr_4) (cw_X7_put hts wi_818 ⟨Nat.le_of_ble_eq_true rfl, Nat.le_of_ble_eq_true rfl⟩) hK hP hD hS [0, 1, 2, 3, 4] [5, 6, 7, 8, 9] rfl rfl rfl (by decide) rfl va_Pnil dj_nil (va_recv hK.1 hP (ci := 5) (q0 := 0) rfl rfl) rfl hl.1 rfl (Nat.le_of_ble_eq_true rfl) dX7_putTerm_9 ⟨Nat.zero_le _, Nat.zero_le _⟩ (fun H locs hP hD hS => ?_)
    refine lv_goto (tgt := 28) hx hb dX7_putTerm_12 (by decide) ?_
    exact b_X7_putTerm_28 qM   C0  r_4 a1 a2 a3 a5 H locs ls hP hD hS (lv_sub hl [0, 1, 2, 3, 4] rfl) hf

set_option maxRecDepth 100000 in
theorem m_X7_putTerm (l : Launch) (G : va_G) (cA : Nat → ClassId) (qM : Nat → Nat) (zM : MdS) (a1 : Int32) (a2 : Int32) (a3 : Int64) (a5 : Int64) (res : MdS) (hf : f_X7_putTerm zM a1 a2 a3 a5 = some res) : MWv l yX7_putTerm (.code yX7_putTerm cX7_putTerm 9 none :: wd) rm_X7_putTerm G cA [.ref (qM 0), .int a1, .int a2, .long a3, .long a5] ((wMd cA qM zM)) [] ((wMd cA qM res)) := by
  refine Met.ofW (cc := cX7_putTerm) (maxL := 9) (ret := none) (by decide) rfl ?_
  intro p e s m args below meth c s₁ B hml hv
  obtain ⟨rfl, hK, hP, hD0, hR, hRA⟩ := hv
  have C0 : Amb p s m ([.ref (qM 0), .int a1, .int a2, .long a3, .long a5] : List Value).toArray meth c cX7_putTerm RX7 9 none G cA (adr ((wMd cA qM zM))) [] := ⟨B.exec, B.bytes, B.returns, hml, findClass_of_methodNamed B.named, fun w h => atoms_spec (ws := (.code yX7_putTerm cX7_putTerm 9 none :: wd)) B.pre w (List.mem_cons_of_mem _ h), B.notSynchronized, hK, hR, hRA⟩
  have hl := lv_entry ([.ref (qM 0), .int a1, .int a2, .long a3, .long a5]) (n := 9) (Nat.le_of_ble_eq_true rfl)
  rw [lg_entry_eq]
  generalize (lg_sl ([.ref (qM 0), .int a1, .int a2, .long a3, .long a5]) ++ List.replicate (9 - (lg_sl ([.ref (qM 0), .int a1, .int a2, .long a3, .long a5])).length) Slot.unset).toArray = ls at hl ⊢
  have hl : lv_has ls 9 [(0, .ref (qM 0)), (1, .int a1), (2, .int a2), (3, .long a3), (5, .long a5)] := hl
  exact b_X7_putTerm_0 (W9 := ((wMd cA qM zM))) qM   C0 zM a1 a2 a3 a5 s.heap [] ls hP (adr.self hD0) va_S.rf hl hf
theorem cw_X7_putTerm {R : Room} {s : State} {args : Array Value} {own : String} {index : Nat} (ht : ∀ w ∈ wd, w.before args s = true) (hlink : Cond.methodLink own index yX7_putTerm ∈ wd) (hR : rm_X7_putTerm.frames + 1 ≤ R.frames ∧ 8 + (9 + 11) + rm_X7_putTerm.locals ≤ R.locals) : CallW R s args own RX7 index yX7_putTerm cX7_putTerm 9 none (.code yX7_putTerm cX7_putTerm 9 none :: wd) rm_X7_putTerm 0 0 4 := cwV9 4 ht wi_817 wi_816 wi_44 wi_60 hlink (by decide +kernel) rfl rfl hR
def rm_X7_write : Room := { frames := 4, cells := 0, slots := 0, locals := 99 }
def f_X7_write_92 (kb_28 : MdS → Int32 → Int32 → Option (Int32 × MdS)) (kb_37 : MdS → Int32 → Int32 → Int32 → Option (Int32 × MdS)) (zM : MdS) (x1 : Int32) (x2 : Int32) (x3 : Int32) : Option (Int32 × MdS) := kb_37 zM x1 x2 (x3 + (-1))
set_option maxHeartbeats 4000000 in
set_option maxRecDepth 100000 in
theorem b_X7_write_92 {p : Program} {l : Launch} {e : Env} {s : State} {m : MethodId} {args : Array Value} {below : List Frame} {meth : Method} {c : Code} {G : va_G} {cA : Nat → ClassId} {W9 : va_W} (qM : Nat → Nat) (C0 : Amb p s m args meth c cX7_write RX7 5 (some .int) G cA (adr W9) []) {res : Int32 × MdS} (kb_28 : MdS → Int32 → Int32 → Option (Int32 × MdS)) (hkb_28 : ∀ (zM : MdS) (x1 : Int32) (x2 : Int32) (H : Heap) (locs : List Loc) (ls : Array Slot), va_P G vwCl ((wMd cA qM zM)) H → va_D (adr W9) ((wMd cA qM zM)) → va_S (adr W9) s.heap H locs → lv_has ls 5 [(0, .ref (qM 0)), (1, .int x1), (2, .int x2)] → kb_28 zM x1 x2 = some res → W p l e rm_X7_write s m args below meth c H locs 0 0 (MQ below (qWi G W9 ((wMd cA qM res.2)) res.1) args s 0 0 (adr W9)) (F0 m 28 ls [])) (kb_37 : MdS → Int32 → Int32 → Int32 → Option (Int32 × MdS)) (hkb_37 : ∀ (zM : MdS) (x1 : Int32) (x2 : Int32) (x3 : Int32) (H : Heap) (locs : List Loc) (ls : Array Slot), va_P G vwCl ((wMd cA qM zM)) H → va_D (adr W9) ((wMd cA qM zM)) → va_S (adr W9) s.heap H locs → lv_has ls 5 [(0, .ref (qM 0)), (1, .int x1), (2, .int x2), (3, .int x3)] → kb_37 zM x1 x2 x3 = some res → W p l e rm_X7_write s m args below meth c H locs 0 0 (MQ below (qWi G W9 ((wMd cA qM res.2)) res.1) args s 0 0 (adr W9)) (F0 m 37 ls [])) : ∀ (zM : MdS) (x1 : Int32) (x2 : Int32) (x3 : Int32) (H : Heap) (locs : List Loc) (ls : Array Slot), va_P G vwCl ((wMd cA qM zM)) H → va_D (adr W9) ((wMd cA qM zM)) → va_S (adr W9) s.heap H locs → lv_has ls 5 [(0, .ref (qM 0)), (1, .int x1), (2, .int x2), (3, .int x3)] → f_X7_write_92 kb_28 kb_37 zM x1 x2 x3 = some res → W p l e rm_X7_write s m args below meth c H locs 0 0 (MQ below (qWi G W9 ((wMd cA qM res.2)) res.1) args s 0 0 (adr W9)) (F0 m 92 ls []) := by
  obtain ⟨hx, hb, hr, hml, hown, hts, hlocks, hK, hR, hRA⟩ := id C0
  intro zM x1 x2 x3 H locs ls hP hD hS hl hf
  unfold f_X7_write_92 at hf
  refine lv_iinc (v := (x3 + (-1))) (lv' := [(3, .int (x3 + (-1))), (0, .ref (qM 0)), (1, .int x1), (2, .int x2)]) hx hb dX7_write_92 hl (k := 3) rfl rfl (by decide) rfl (fun ls hl => ?_)
  refine lv_goto (tgt := 37) hx hb dX7_write_95 (by decide) ?_
  exact hkb_37 zM x1 x2 (x3 + (-1)) H locs ls hP hD hS (lv_sub hl [1, 2, 3, 0] rfl) hf
def f_X7_write_37 (kb_28 : MdS → Int32 → Int32 → Option (Int32 × MdS)) : Nat → MdS → Int32 → Int32 → Int32 → Option (Int32 × MdS)
  | 0, _, _, _, _ => none
  | fu + 1, zM, x1, x2, x3 => if x3 ≤ (-13 : Int32) then kb_28 zM x1 (x2 + 1) else (some ((((((1150 : Int32) * x1) + ((25 : Int32) * x2)) + x3) + (12 : Int32)))).bind fun y_2 => if inb y_2 nUD = true then if (gM_up zM y_2.toNatClampNeg) = (0 : Int64) then f_X7_write_92 kb_28 (fun zM_ x1_ x2_ x3_ => f_X7_write_37 kb_28 fu zM_ x1_ x2_ x3_) zM x1 x2 x3 else if inb y_2 nUD = true then if inb y_2 nUD = true then (f_X7_putTerm zM x2 x3 (gM_up zM y_2.toNatClampNeg) (gM_down zM y_2.toNatClampNeg)).bind fun r_7 => f_X7_write_92 kb_28 (fun zM_ x1_ x2_ x3_ => f_X7_write_37 kb_28 fu zM_ x1_ x2_ x3_) r_7 x1 x2 x3 else none else none else none
set_option maxHeartbeats 4000000 in
set_option maxRecDepth 100000 in
theorem b_X7_write_37 {p : Program} {l : Launch} {e : Env} {s : State} {m : MethodId} {args : Array Value} {below : List Frame} {meth : Method} {c : Code} {G : va_G} {cA : Nat → ClassId} {W9 : va_W} (qM : Nat → Nat) (C0 : Amb p s m args meth c cX7_write RX7 5 (some .int) G cA (adr W9) []) {res : Int32 × MdS} (kb_28 : MdS → Int32 → Int32 → Option (Int32 × MdS)) (hkb_28 : ∀ (zM : MdS) (x1 : Int32) (x2 : Int32) (H : Heap) (locs : List Loc) (ls : Array Slot), va_P G vwCl ((wMd cA qM zM)) H → va_D (adr W9) ((wMd cA qM zM)) → va_S (adr W9) s.heap H locs → lv_has ls 5 [(0, .ref (qM 0)), (1, .int x1), (2, .int x2)] → kb_28 zM x1 x2 = some res → W p l e rm_X7_write s m args below meth c H locs 0 0 (MQ below (qWi G W9 ((wMd cA qM res.2)) res.1) args s 0 0 (adr W9)) (F0 m 28 ls [])) : ∀ (fu : Nat) (zM : MdS) (x1 : Int32) (x2 : Int32) (x3 : Int32) (H : Heap) (locs : List Loc) (ls : Array Slot), va_P G vwCl ((wMd cA qM zM)) H → va_D (adr W9) ((wMd cA qM zM)) → va_S (adr W9) s.heap H locs → lv_has ls 5 [(0, .ref (qM 0)), (1, .int x1), (2, .int x2), (3, .int x3)] → f_X7_write_37 kb_28 fu zM x1 x2 x3 = some res → W p l e rm_X7_write s m args below meth c H locs 0 0 (MQ below (qWi G W9 ((wMd cA qM res.2)) res.1) args s 0 0 (adr W9)) (F0 m 37 ls []) := by
  obtain ⟨hx, hb, hr, hml, hown, hts, hlocks, hK, hR, hRA⟩ := id C0
  intro fu
  induction fu with
  | zero =>
    intro zM x1 x2 x3 H locs ls hP hD hS hl hf
    rw [f_X7_write_37] at hf
    cases hf
  | succ fu ih =>
    intro zM x1 x2 x3 H locs ls hP hD hS hl hf
    rw [f_X7_write_37] at hf
    refine lv_iload_n hx hb dX7_write_37 rfl (lv_at hl 3 rfl) ?_
    refine lv_bipush (v := (-13 : Int32)) hx hb dX7_write_38 (by decide) ?_
    refine lv_icmp_le (tgt := 98) hx hb dX7_write_40 (by decide) (fun c_1 => ?_) (fun c_1 => ?_)
    · rw [if_pos (c_1)] at hf
      refine lv_iinc (v := (x2 + 1)) (lv' := [(2, .int (x2 + 1)), (0, .ref (qM 0)), (1, .int x1), (3, .int x3)]) hx hb dX7_write_98 hl (k := 2) rfl rfl (by decide) rfl (fun ls hl => ?_)
      refine lv_goto (tgt := 28) hx hb dX7_write_101 (by decide) ?_
      exact hkb_28 zM x1 (x2 + 1) H locs ls hP hD hS (lv_sub hl [1, 2, 0] rfl) hf
    · rw [if_neg (c_1)] at hf
      refine lv_sipush (v := (1150 : Int32)) hx hb dX7_write_43 (by decide) ?_
      refine lv_iload_n hx hb dX7_write_46 rfl (lv_at hl 1 rfl) ?_
      refine lv_imul hx hb dX7_write_47 ?_
      refine lv_bipush (v := (25 : Int32)) hx hb dX7_write_48 (by decide) ?_
      refine lv_iload_n hx hb dX7_write_50 rfl (lv_at hl 2 rfl) ?_
      refine lv_imul hx hb dX7_write_51 ?_
      refine lv_iadd hx hb dX7_write_52 ?_
      refine lv_iload_n hx hb dX7_write_53 rfl (lv_at hl 3 rfl) ?_
      refine lv_iadd hx hb dX7_write_54 ?_
      refine lv_bipush (v := (12 : Int32)) hx hb dX7_write_55 (by decide) ?_
      refine lv_iadd hx hb dX7_write_57 ?_
      obtain ⟨y_2, hq, hf⟩ := obd hf
      have hy_2 : (((((1150 : Int32) * x1) + ((25 : Int32) * x2)) + x3) + (12 : Int32)) = y_2 := Option.some.inj hq
      rw [hy_2]
      refine lv_istore (lv' := [(4, .int y_2), (0, .ref (qM 0)), (1, .int x1), (2, .int x2), (3, .int x3)]) hx hb dX7_write_58 hl (by decide) rfl (fun ls hl => ?_)
      refine lv_aload_n hx hb dX7_write_60 rfl (lv_at hl 1 rfl) ?_
      refine va_get (D := G) (ci := 5) (v := .ref (qM 3)) (C := RX7) (T := TX7) (N := 13) hx hb hts fin_X7 hown hK.1 hP 0 rfl rfl 6 (by decide) (hts _ wi_677) (fun _ h9 => h9) rfl dX7_write_61 ?_
      refine lv_iload hx hb dX7_write_64 (lv_at hl 0 rfl) ?_
      obtain ⟨hi_3, hf⟩ := oif hf
      refine va_lald hx hb hK.1 hP 3 1 rfl rfl (inb_in hi_3) dX7_write_66 ?_
      refine lv_lconst (v := (0 : Int64)) hx hb dX7_write_67 (by decide) ?_
      refine W.lcmp hx hb dX7_write_68 ?_
      refine lv_if_eq (tgt := 92) hx hb dX7_write_69 (by decide) (fun c_4 => ?_) (fun c_4 => ?_)
      · rw [if_pos ((lg_cmp_eq _ _).mp c_4)] at hf
        exact b_X7_write_92 qM   C0 kb_28 hkb_28 (fun zM_ x1_ x2_ x3_ => f_X7_write_37 kb_28 fu zM_ x1_ x2_ x3_) ih zM x1 x2 x3 H locs ls hP hD hS (lv_sub hl [1, 2, 3, 4] rfl) hf
      · rw [if_neg (fun h => c_4 ((lg_cmp_eq _ _).mpr h))] at hf
        refine lv_aload_n hx hb dX7_write_72 rfl (lv_at hl 1 rfl) ?_
        refine lv_iload_n hx hb dX7_write_73 rfl (lv_at hl 3 rfl) ?_
        refine lv_iload_n hx hb dX7_write_74 rfl (lv_at hl 4 rfl) ?_
        refine lv_aload_n hx hb dX7_write_75 rfl (lv_at hl 1 rfl) ?_
        refine va_get (D := G) (ci := 5) (v := .ref (qM 3)) (C := RX7) (T := TX7) (N := 13) hx hb hts fin_X7 hown hK.1 hP 0 rfl rfl 6 (by decide) (hts _ wi_677) (fun _ h9 => h9) rfl dX7_write_76 ?_
        refine lv_iload hx hb dX7_write_79 (lv_at hl 0 rfl) ?_
        obtain ⟨hi_5, hf⟩ := oif hf
        refine va_lald hx hb hK.1 hP 3 1 rfl rfl (inb_in hi_5) dX7_write_81 ?_
        refine lv_aload_n hx hb dX7_write_82 rfl (lv_at hl 1 rfl) ?_
        refine va_get (D := G) (ci := 5) (v := .ref (qM 4)) (C := RX7) (T := TX7) (N := 13) hx hb hts fin_X7 hown hK.1 hP 0 rfl rfl 7 (by decide) (hts _ wi_678) (fun _ h9 => h9) rfl dX7_write_83 ?_
        refine lv_iload hx hb dX7_write_86 (lv_at hl 0 rfl) ?_
        obtain ⟨hi_6, hf⟩ := oif hf
        refine va_lald hx hb hK.1 hP 4 1 rfl rfl (inb_in hi_6) dX7_write_88 ?_
        obtain ⟨r_7, hr_7, hf⟩ := obd hf
        refine cWvV (As := [.int x2, .int x3, .long (gM_up zM y_2.toNatClampNeg), .long (gM_down zM y_2.toNatClampNeg)]) (rest := []) (W1 := ((wMd cA qM r_7))) ⟨hx, hb, hml, hown, hts⟩ (m_X7_putTerm l G cA qM zM x2 x3 (gM_up zM y_2.toNatClampNeg) (gM_down zM y_2.toNatClampNeg) r_7 hr_7) (cw_X7_putTerm hts wi_814 ⟨Nat.le_of_ble_eq_true rfl, Nat.le_of_ble_eq_true rfl⟩) hK hP hD hS [0, 1, 2, 3, 4] [5, 6, 7, 8, 9] rfl rfl rfl (by decide) rfl va_Pnil dj_nil (va_recv hK.1 hP (ci := 5) (q0 := 0) rfl rfl) rfl hl.1 rfl (Nat.le_of_ble_eq_true rfl) dX7_write_89 ⟨Nat.zero_le _, Nat.zero_le _⟩ (fun H locs hP hD hS => ?_)
        exact b_X7_write_92 qM   C0 kb_28 hkb_28 (fun zM_ x1_ x2_ x3_ => f_X7_write_37 kb_28 fu zM_ x1_ x2_ x3_) ih r_7 x1 x2 x3 H locs ls hP hD hS (lv_sub hl [1, 2, 3, 4] rfl) hf
def f_X7_write_28  : Nat → MdS → Int32 → Int32 → Option (Int32 × MdS)
  | 0, _, _, _ => none
  | fu + 1, zM, x1, x2 => if (46 : Int32) ≤ x2 then if ¬ (gM_outSize zM) = 0 then some ((gM_outSize zM), zM) else (f_X7_put zM (48 : Int32)).bind fun r_3 => some ((gM_outSize r_3), r_3) else f_X7_write_37 (fun zM_ x1_ x2_ => f_X7_write_28  fu zM_ x1_ x2_) fuel zM x1 x2 (12 : Int32)
set_option maxHeartbeats 4000000 in
set_option maxRecDepth 100000 in
theorem b_X7_write_28 {p : Program} {l : Launch} {e : Env} {s : State} {m : MethodId} {args : Array Value} {below : List Frame} {meth : Method} {c : Code} {G : va_G} {cA : Nat → ClassId} {W9 : va_W} (qM : Nat → Nat) (C0 : Amb p s m args meth c cX7_write RX7 5 (some .int) G cA (adr W9) []) {res : Int32 × MdS} : ∀ (fu : Nat) (zM : MdS) (x1 : Int32) (x2 : Int32) (H : Heap) (locs : List Loc) (ls : Array Slot), va_P G vwCl ((wMd cA qM zM)) H → va_D (adr W9) ((wMd cA qM zM)) → va_S (adr W9) s.heap H locs → lv_has ls 5 [(0, .ref (qM 0)), (1, .int x1), (2, .int x2)] → f_X7_write_28 fu zM x1 x2 = some res → W p l e rm_X7_write s m args below meth c H locs 0 0 (MQ below (qWi G W9 ((wMd cA qM res.2)) res.1) args s 0 0 (adr W9)) (F0 m 28 ls []) := by
  obtain ⟨hx, hb, hr, hml, hown, hts, hlocks, hK, hR, hRA⟩ := id C0
  intro fu
  induction fu with
  | zero =>
    intro zM x1 x2 H locs ls hP hD hS hl hf
    rw [f_X7_write_28] at hf
    cases hf
  | succ fu ih =>
    intro zM x1 x2 H locs ls hP hD hS hl hf
    rw [f_X7_write_28] at hf
    refine lv_iload_n hx hb dX7_write_28 rfl (lv_at hl 2 rfl) ?_
    refine lv_bipush (v := (46 : Int32)) hx hb dX7_write_29 (by decide) ?_
    refine lv_icmp_ge (tgt := 104) hx hb dX7_write_31 (by decide) (fun c_1 => ?_) (fun c_1 => ?_)
    · rw [if_pos (c_1)] at hf
      refine lv_aload_n hx hb dX7_write_104 rfl (lv_at hl 0 rfl) ?_
      refine va_get (D := G) (ci := 5) (v := .int (gM_outSize zM)) (C := RX7) (T := TX7) (N := 13) hx hb hts fin_X7 hown hK.1 hP 0 rfl rfl 4 (by decide) (hts _ wi_675) (fun _ h9 => h9) rfl dX7_write_105 ?_
      refine lv_if_ne (tgt := 117) hx hb dX7_write_108 (by decide) (fun c_2 => ?_) (fun c_2 => ?_)
      · rw [if_pos (c_2)] at hf
        refine lv_aload_n hx hb dX7_write_117 rfl (lv_at hl 0 rfl) ?_
        refine va_get (D := G) (ci := 5) (v := .int (gM_outSize zM)) (C := RX7) (T := TX7) (N := 13) hx hb hts fin_X7 hown hK.1 hP 0 rfl rfl 4 (by decide) (hts _ wi_675) (fun _ h9 => h9) rfl dX7_write_118 ?_
        cases hf
        exact W.iret hx hb hr (fun t ht hW => ⟨⟨_, (), rfl, rfl, toT ht hP⟩, hS.F ht⟩) hS.2.2 dX7_write_121 hlocks
      · rw [if_neg (not_not_intro c_2)] at hf
        refine lv_aload_n hx hb dX7_write_111 rfl (lv_at hl 0 rfl) ?_
        refine lv_bipush (v := (48 : Int32)) hx hb dX7_write_112 (by decide) ?_
        obtain ⟨r_3, hr_3, hf⟩ := obd hf
        refine cWvV (As := [.int (48 : Int32)]) (rest := []) (W1 := ((wMd cA qM r_3))) ⟨hx, hb, hml, hown, hts⟩ (m_X7_put l G cA qM zM (48 : Int32) r_3 hr_3) (cw_X7_put hts wi_818 ⟨Nat.le_of_ble_eq_true rfl, Nat.le_of_ble_eq_true rfl⟩) hK hP hD hS [0, 1, 2, 3, 4] [5, 6, 7, 8, 9] rfl rfl rfl (by decide) rfl va_Pnil dj_nil (va_recv hK.1 hP (ci := 5) (q0 := 0) rfl rfl) rfl hl.1 rfl (Nat.le_of_ble_eq_true rfl) dX7_write_114 ⟨Nat.zero_le _, Nat.zero_le _⟩ (fun H locs hP hD hS => ?_)
        refine lv_aload_n hx hb dX7_write_117 rfl (lv_at hl 0 rfl) ?_
        refine va_get (D := G) (ci := 5) (v := .int (gM_outSize r_3)) (C := RX7) (T := TX7) (N := 13) hx hb hts fin_X7 hown hK.1 hP 0 rfl rfl 4 (by decide) (hts _ wi_675) (fun _ h9 => h9) rfl dX7_write_118 ?_
        cases hf
        exact W.iret hx hb hr (fun t ht hW => ⟨⟨_, (), rfl, rfl, toT ht hP⟩, hS.F ht⟩) hS.2.2 dX7_write_121 hlocks
    · rw [if_neg (c_1)] at hf
      refine lv_bipush (v := (12 : Int32)) hx hb dX7_write_34 (by decide) ?_
      refine lv_istore_n (lv' := [(3, .int (12 : Int32)), (0, .ref (qM 0)), (1, .int x1), (2, .int x2)]) hx hb dX7_write_36 rfl hl (by decide) rfl (fun ls hl => ?_)
      exact b_X7_write_37 qM   C0 (fun zM_ x1_ x2_ => f_X7_write_28  fu zM_ x1_ x2_) ih fuel zM x1 x2 (12 : Int32) H locs ls hP hD hS (lv_sub hl [1, 2, 3, 0] rfl) hf
def f_X7_write_13 (zM : MdS) (x1 : Int32) (v1 : Int32) : Option (Int32 × MdS) := (f_X7_refused zM v1).bind fun r_1 => if r_1.1 = 0 then f_X7_write_28 fuel (uM_outSize r_1.2 (0 : Int32)) x1 (0 : Int32) else some ((0 : Int32), r_1.2)
set_option maxHeartbeats 4000000 in
set_option maxRecDepth 100000 in
theorem b_X7_write_13 {p : Program} {l : Launch} {e : Env} {s : State} {m : MethodId} {args : Array Value} {below : List Frame} {meth : Method} {c : Code} {G : va_G} {cA : Nat → ClassId} {W9 : va_W} (qM : Nat → Nat) (C0 : Amb p s m args meth c cX7_write RX7 5 (some .int) G cA (adr W9) []) {res : Int32 × MdS} : ∀ (zM : MdS) (x1 : Int32) (v1 : Int32) (H : Heap) (locs : List Loc) (ls : Array Slot), va_P G vwCl ((wMd cA qM zM)) H → va_D (adr W9) ((wMd cA qM zM)) → va_S (adr W9) s.heap H locs → lv_has ls 5 [(0, .ref (qM 0)), (1, .int x1)] → f_X7_write_13 zM x1 v1 = some res → W p l e rm_X7_write s m args below meth c H locs 0 0 (MQ below (qWi G W9 ((wMd cA qM res.2)) res.1) args s 0 0 (adr W9)) (F0 m 13 ls [.int v1, .ref (qM 0)]) := by
  obtain ⟨hx, hb, hr, hml, hown, hts, hlocks, hK, hR, hRA⟩ := id C0
  intro zM x1 v1 H locs ls hP hD hS hl hf
  unfold f_X7_write_13 at hf
  obtain ⟨r_1, hr_1, hf⟩ := obd hf
  refine cWiV (As := [.int v1]) (rest := []) (W1 := ((wMd cA qM r_1.2))) ⟨hx, hb, hml, hown, hts⟩ (m_X7_refused l G cA qM zM v1 r_1 hr_1) (cw_X7_refused hts wi_723 ⟨Nat.le_of_ble_eq_true rfl, Nat.le_of_ble_eq_true rfl⟩) hK hP hD hS [0, 1, 2, 3, 4] [5, 6, 7, 8, 9] rfl rfl rfl (by decide) rfl va_Pnil dj_nil (va_recv hK.1 hP (ci := 5) (q0 := 0) rfl rfl) rfl hl.1 rfl (Nat.le_of_ble_eq_true rfl) dX7_write_13 ⟨Nat.zero_le _, Nat.zero_le _⟩ (fun H locs hP hD hS => ?_)
  refine lv_if_eq (tgt := 21) hx hb dX7_write_16 (by decide) (fun c_2 => ?_) (fun c_2 => ?_)
  · rw [if_pos (c_2)] at hf
    refine lv_aload_n hx hb dX7_write_21 rfl (lv_at hl 0 rfl) ?_
    refine lv_iconst (v := 0) hx hb dX7_write_22 (by decide) ?_
    refine va_put (D := G) (ci := 5) (v := .int (0 : Int32)) (ty := .int) (C := RX7) (T := TX7) (N := 13) hx hb hts fin_X7 tyX7 tyX7_ok nmX7 hown hK.1 hP hD hS 0 rfl rfl 4 (by decide) (hts _ wi_675) (fun _ h9 => h9) rfl (by decide +kernel) rfl rfl (Nat.le_of_ble_eq_true rfl) dX7_write_23 (fun H locs hP hD hS => ?_)
    have hP := sM_outSize_P hP
    have hD := sM_outSize_D hD
    refine lv_iconst (v := 0) hx hb dX7_write_26 (by decide) ?_
    refine lv_istore_n (lv' := [(2, .int (0 : Int32)), (0, .ref (qM 0)), (1, .int x1)]) hx hb dX7_write_27 rfl hl (by decide) rfl (fun ls hl => ?_)
    exact b_X7_write_28 qM   C0  fuel (uM_outSize r_1.2 (0 : Int32)) x1 (0 : Int32) H locs ls hP hD hS (lv_sub hl [1, 2, 0] rfl) hf
  · rw [if_neg (c_2)] at hf
    refine lv_iconst (v := 0) hx hb dX7_write_19 (by decide) ?_
    cases hf
    exact W.iret hx hb hr (fun t ht hW => ⟨⟨_, (), rfl, rfl, toT ht hP⟩, hS.F ht⟩) hS.2.2 dX7_write_20 hlocks
def f_X7_write (zM : MdS) (a1 : Int32) : Option (Int32 × MdS) := (f_X7_isSlot a1).bind fun r_1 => if r_1 = 0 then f_X7_write_13  zM a1 (1 : Int32) else f_X7_write_13  zM a1 (0 : Int32)
set_option maxHeartbeats 4000000 in
set_option maxRecDepth 100000 in
theorem b_X7_write_0 {p : Program} {l : Launch} {e : Env} {s : State} {m : MethodId} {args : Array Value} {below : List Frame} {meth : Method} {c : Code} {G : va_G} {cA : Nat → ClassId} {W9 : va_W} (qM : Nat → Nat) (C0 : Amb p s m args meth c cX7_write RX7 5 (some .int) G cA (adr W9) []) {res : Int32 × MdS} : ∀ (zM : MdS) (a1 : Int32) (H : Heap) (locs : List Loc) (ls : Array Slot), va_P G vwCl ((wMd cA qM zM)) H → va_D (adr W9) ((wMd cA qM zM)) → va_S (adr W9) s.heap H locs → lv_has ls 5 [(0, .ref (qM 0)), (1, .int a1)] → f_X7_write zM a1 = some res → W p l e rm_X7_write s m args below meth c H locs 0 0 (MQ below (qWi G W9 ((wMd cA qM res.2)) res.1) args s 0 0 (adr W9)) (F0 m 0 ls []) := by
  obtain ⟨hx, hb, hr, hml, hown, hts, hlocks, hK, hR, hRA⟩ := id C0
  intro zM a1 H locs ls hP hD hS hl hf
  unfold f_X7_write at hf
  refine lv_aload_n hx hb dX7_write_0 rfl (lv_at hl 0 rfl) ?_
  refine lv_iload_n hx hb dX7_write_1 rfl (lv_at hl 1 rfl) ?_
  obtain ⟨r_1, hr_1, hf⟩ := obd hf
  refine cRiS (As := [.int a1]) (rest := [.ref (qM 0)]) ⟨hx, hb, hml, hown, hts⟩ (m_X7_isSlot l G cA a1 r_1 hr_1) (cw_X7_isSlot hts wi_735 ⟨Nat.le_of_ble_eq_true rfl, Nat.le_of_ble_eq_true rfl⟩) hK va_Pnil rfl hl.1 rfl (Nat.le_of_ble_eq_true rfl) dX7_write_2 ⟨Nat.zero_le _, Nat.zero_le _⟩ ?_
  refine lv_if_eq (tgt := 12) hx hb dX7_write_5 (by decide) (fun c_2 => ?_) (fun c_2 => ?_)
  · rw [if_pos (c_2)] at hf
    refine lv_iconst (v := 1) hx hb dX7_write_12 (by decide) ?_
    exact b_X7_write_13 qM   C0  zM a1 (1 : Int32) H locs ls hP hD hS (lv_sub hl [0, 1] rfl) hf
  · rw [if_neg (c_2)] at hf
    refine lv_iconst (v := 0) hx hb dX7_write_8 (by decide) ?_
    refine lv_goto (tgt := 13) hx hb dX7_write_9 (by decide) ?_
    exact b_X7_write_13 qM   C0  zM a1 (0 : Int32) H locs ls hP hD hS (lv_sub hl [0, 1] rfl) hf

set_option maxRecDepth 100000 in
theorem m_X7_write (l : Launch) (G : va_G) (cA : Nat → ClassId) (qM : Nat → Nat) (zM : MdS) (a1 : Int32) (res : Int32 × MdS) (hf : f_X7_write zM a1 = some res) : MWi l yX7_write (.code yX7_write cX7_write 5 (some .int) :: wd) rm_X7_write G cA [.ref (qM 0), .int a1] ((wMd cA qM zM)) [] ((wMd cA qM res.2)) res.1 := by
  refine Met.ofW (cc := cX7_write) (maxL := 5) (ret := (some .int)) (by decide) rfl ?_
  intro p e s m args below meth c s₁ B hml hv
  obtain ⟨rfl, hK, hP, hD0, hR, hRA⟩ := hv
  have C0 : Amb p s m ([.ref (qM 0), .int a1] : List Value).toArray meth c cX7_write RX7 5 (some .int) G cA (adr ((wMd cA qM zM))) [] := ⟨B.exec, B.bytes, B.returns, hml, findClass_of_methodNamed B.named, fun w h => atoms_spec (ws := (.code yX7_write cX7_write 5 (some .int) :: wd)) B.pre w (List.mem_cons_of_mem _ h), B.notSynchronized, hK, hR, hRA⟩
  have hl := lv_entry ([.ref (qM 0), .int a1]) (n := 5) (Nat.le_of_ble_eq_true rfl)
  rw [lg_entry_eq]
  generalize (lg_sl ([.ref (qM 0), .int a1]) ++ List.replicate (5 - (lg_sl ([.ref (qM 0), .int a1])).length) Slot.unset).toArray = ls at hl ⊢
  have hl : lv_has ls 5 [(0, .ref (qM 0)), (1, .int a1)] := hl
  exact b_X7_write_0 (W9 := ((wMd cA qM zM))) qM   C0 zM a1 s.heap [] ls hP (adr.self hD0) va_S.rf hl hf
theorem cw_X7_write {R : Room} {s : State} {args : Array Value} {own : String} {index : Nat} (ht : ∀ w ∈ wd, w.before args s = true) (hlink : Cond.methodLink own index yX7_write ∈ wd) (hR : rm_X7_write.frames + 1 ≤ R.frames ∧ 8 + (5 + 11) + rm_X7_write.locals ≤ R.locals) : CallW R s args own RX7 index yX7_write cX7_write 5 (some .int) (.code yX7_write cX7_write 5 (some .int) :: wd) rm_X7_write 0 0 1 := cwV9 1 ht wi_813 wi_811 wi_812 wi_60 hlink (by decide +kernel) rfl rfl hR
def rm_X7_output : Room := { frames := 0, cells := 0, slots := 0, locals := 0 }
def f_X7_output (zM : MdS) (a1 : Int32) : Option (Int32 × MdS) := if a1 < 0 then if cb (32 : Int32) = true then some ((32 : Int32), (uM_refusal zM (0 : Int32))) else none else if (gM_outSize (uM_refusal zM (0 : Int32))) ≤ a1 then if cb (32 : Int32) = true then some ((32 : Int32), (uM_refusal zM (0 : Int32))) else none else if inb a1 1400 = true then if cb (gM_out (uM_refusal zM (0 : Int32)) a1.toNatClampNeg) = true then some ((gM_out (uM_refusal zM (0 : Int32)) a1.toNatClampNeg), (uM_refusal zM (0 : Int32))) else none else none
set_option maxHeartbeats 4000000 in
set_option maxRecDepth 100000 in
theorem b_X7_output_0 {p : Program} {l : Launch} {e : Env} {s : State} {m : MethodId} {args : Array Value} {below : List Frame} {meth : Method} {c : Code} {G : va_G} {cA : Nat → ClassId} {W9 : va_W} (qM : Nat → Nat) (C0 : Amb p s m args meth c cX7_output RX7 2 (some .char) G cA (adr W9) []) {res : Int32 × MdS} : ∀ (zM : MdS) (a1 : Int32) (H : Heap) (locs : List Loc) (ls : Array Slot), va_P G vwCl ((wMd cA qM zM)) H → va_D (adr W9) ((wMd cA qM zM)) → va_S (adr W9) s.heap H locs → lv_has ls 2 [(0, .ref (qM 0)), (1, .int a1)] → f_X7_output zM a1 = some res → W p l e rm_X7_output s m args below meth c H locs 0 0 (MQ below (qWi G W9 ((wMd cA qM res.2)) res.1) args s 0 0 (adr W9)) (F0 m 0 ls []) := by
  obtain ⟨hx, hb, hr, hml, hown, hts, hlocks, hK, hR, hRA⟩ := id C0
  intro zM a1 H locs ls hP hD hS hl hf
  unfold f_X7_output at hf
  refine lv_aload_n hx hb dX7_output_0 rfl (lv_at hl 0 rfl) ?_
  refine lv_iconst (v := 0) hx hb dX7_output_1 (by decide) ?_
  refine va_put (D := G) (ci := 5) (v := .int (0 : Int32)) (ty := .int) (C := RX7) (T := TX7) (N := 13) hx hb hts fin_X7 tyX7 tyX7_ok nmX7 hown hK.1 hP hD hS 0 rfl rfl 0 (by decide) (hts _ wi_671) (fun _ h9 => h9) rfl (by decide +kernel) rfl rfl (Nat.le_of_ble_eq_true rfl) dX7_output_2 (fun H locs hP hD hS => ?_)
  have hP := sM_refusal_P hP
  have hD := sM_refusal_D hD
  refine lv_iload_n hx hb dX7_output_5 rfl (lv_at hl 1 rfl) ?_
  refine lv_if_lt (tgt := 26) hx hb dX7_output_6 (by decide) (fun c_1 => ?_) (fun c_1 => ?_)
  · rw [if_pos (c_1)] at hf
    refine lv_bipush (v := (32 : Int32)) hx hb dX7_output_26 (by decide) ?_
    obtain ⟨hz_2, hf⟩ := oif hf
    cases hf
    exact W.zret hx hb hr (cb_n hz_2) (fun t ht hW => ⟨⟨_, (), rfl, rfl, toT ht hP⟩, hS.F ht⟩) hS.2.2 dX7_output_28 hlocks
  · rw [if_neg (c_1)] at hf
    refine lv_iload_n hx hb dX7_output_9 rfl (lv_at hl 1 rfl) ?_
    refine lv_aload_n hx hb dX7_output_10 rfl (lv_at hl 0 rfl) ?_
    refine va_get (D := G) (ci := 5) (v := .int (gM_outSize (uM_refusal zM (0 : Int32)))) (C := RX7) (T := TX7) (N := 13) hx hb hts fin_X7 hown hK.1 hP 0 rfl rfl 4 (by decide) (hts _ wi_675) (fun _ h9 => h9) rfl dX7_output_11 ?_
    refine lv_icmp_ge (tgt := 26) hx hb dX7_output_14 (by decide) (fun c_3 => ?_) (fun c_3 => ?_)
    · rw [if_pos (c_3)] at hf
      refine lv_bipush (v := (32 : Int32)) hx hb dX7_output_26 (by decide) ?_
      obtain ⟨hz_4, hf⟩ := oif hf
      cases hf
      exact W.zret hx hb hr (cb_n hz_4) (fun t ht hW => ⟨⟨_, (), rfl, rfl, toT ht hP⟩, hS.F ht⟩) hS.2.2 dX7_output_28 hlocks
    · rw [if_neg (c_3)] at hf
      refine lv_aload_n hx hb dX7_output_17 rfl (lv_at hl 0 rfl) ?_
      refine va_get (D := G) (ci := 5) (v := .ref (qM 2)) (C := RX7) (T := TX7) (N := 13) hx hb hts fin_X7 hown hK.1 hP 0 rfl rfl 3 (by decide) (hts _ wi_674) (fun _ h9 => h9) rfl dX7_output_18 ?_
      refine lv_iload_n hx hb dX7_output_21 rfl (lv_at hl 1 rfl) ?_
      obtain ⟨hi_5, hf⟩ := oif hf
      refine va_cald hx hb hK.1 hP 2 2 rfl rfl (inb_in hi_5) dX7_output_22 ?_
      refine lv_goto (tgt := 28) hx hb dX7_output_23 (by decide) ?_
      obtain ⟨hz_6, hf⟩ := oif hf
      cases hf
      exact W.zret hx hb hr (cb_n hz_6) (fun t ht hW => ⟨⟨_, (), rfl, rfl, toT ht hP⟩, hS.F ht⟩) hS.2.2 dX7_output_28 hlocks

set_option maxRecDepth 100000 in
theorem m_X7_output (l : Launch) (G : va_G) (cA : Nat → ClassId) (qM : Nat → Nat) (zM : MdS) (a1 : Int32) (res : Int32 × MdS) (hf : f_X7_output zM a1 = some res) : MWi l yX7_output (.code yX7_output cX7_output 2 (some .char) :: wd) rm_X7_output G cA [.ref (qM 0), .int a1] ((wMd cA qM zM)) [] ((wMd cA qM res.2)) res.1 := by
  refine Met.ofW (cc := cX7_output) (maxL := 2) (ret := (some .char)) (by decide) rfl ?_
  intro p e s m args below meth c s₁ B hml hv
  obtain ⟨rfl, hK, hP, hD0, hR, hRA⟩ := hv
  have C0 : Amb p s m ([.ref (qM 0), .int a1] : List Value).toArray meth c cX7_output RX7 2 (some .char) G cA (adr ((wMd cA qM zM))) [] := ⟨B.exec, B.bytes, B.returns, hml, findClass_of_methodNamed B.named, fun w h => atoms_spec (ws := (.code yX7_output cX7_output 2 (some .char) :: wd)) B.pre w (List.mem_cons_of_mem _ h), B.notSynchronized, hK, hR, hRA⟩
  have hl := lv_entry ([.ref (qM 0), .int a1]) (n := 2) (Nat.le_of_ble_eq_true rfl)
  rw [lg_entry_eq]
  generalize (lg_sl ([.ref (qM 0), .int a1]) ++ List.replicate (2 - (lg_sl ([.ref (qM 0), .int a1])).length) Slot.unset).toArray = ls at hl ⊢
  have hl : lv_has ls 2 [(0, .ref (qM 0)), (1, .int a1)] := hl
  exact b_X7_output_0 (W9 := ((wMd cA qM zM))) qM   C0 zM a1 s.heap [] ls hP (adr.self hD0) va_S.rf hl hf
theorem cw_X7_output {R : Room} {s : State} {args : Array Value} {own : String} {index : Nat} (ht : ∀ w ∈ wd, w.before args s = true) (hlink : Cond.methodLink own index yX7_output ∈ wd) (hR : rm_X7_output.frames + 1 ≤ R.frames ∧ 8 + (2 + 11) + rm_X7_output.locals ≤ R.locals) : CallW R s args own RX7 index yX7_output cX7_output 2 (some .char) (.code yX7_output cX7_output 2 (some .char) :: wd) rm_X7_output 0 0 1 := cwV9 1 ht wi_842 wi_840 wi_841 wi_60 hlink (by decide +kernel) rfl rfl hR
def rm_X7_add : Room := { frames := 3, cells := 0, slots := 0, locals := 68 }
def f_X7_add_238 (kb_116 : MdS → Int32 → Int32 → Int32 → Int32 → Int32 → Option (Int32 × MdS)) (kb_127 : MdS → Int32 → Int32 → Int32 → Int32 → Int32 → Int32 → Option (Int32 × MdS)) (zM : MdS) (x1 : Int32) (x3 : Int32) (x4 : Int32) (x5 : Int32) (x7 : Int32) (x8 : Int32) (x10 : Int64) (v0 : Int64) : Option (Int32 × MdS) := (f_X7_gcd x10 v0).bind fun r_1 => (f_X7_kindOf x7).bind fun r_2 => (f_X7_countOf x7).bind fun r_3 => if ¬ r_1 = 0 then if ¬ r_1 = 0 then (f_X7_addTerm zM (8 : Int32) r_2 r_3 x8 (x10 / r_1) (v0 / r_1)).bind fun r_6 => kb_127 r_6 x1 x3 x4 x5 x7 (x8 + 1) else none else none
set_option maxHeartbeats 4000000 in
set_option maxRecDepth 100000 in
theorem b_X7_add_238 {p : Program} {l : Launch} {e : Env} {s : State} {m : MethodId} {args : Array Value} {below : List Frame} {meth : Method} {c : Code} {G : va_G} {cA : Nat → ClassId} {W9 : va_W} (qM : Nat → Nat) (C0 : Amb p s m args meth c cX7_add RX7 16 (some .int) G cA (adr W9) []) {res : Int32 × MdS} (kb_116 : MdS → Int32 → Int32 → Int32 → Int32 → Int32 → Option (Int32 × MdS)) (hkb_116 : ∀ (zM : MdS) (x1 : Int32) (x3 : Int32) (x4 : Int32) (x5 : Int32) (x7 : Int32) (H : Heap) (locs : List Loc) (ls : Array Slot), va_P G vwCl ((wMd cA qM zM)) H → va_D (adr W9) ((wMd cA qM zM)) → va_S (adr W9) s.heap H locs → lv_has ls 16 [(0, .ref (qM 0)), (1, .int x1), (3, .int x3), (4, .int x4), (5, .int x5), (7, .int x7)] → kb_116 zM x1 x3 x4 x5 x7 = some res → W p l e rm_X7_add s m args below meth c H locs 0 0 (MQ below (qWi G W9 ((wMd cA qM res.2)) res.1) args s 0 0 (adr W9)) (F0 m 116 ls [])) (kb_127 : MdS → Int32 → Int32 → Int32 → Int32 → Int32 → Int32 → Option (Int32 × MdS)) (hkb_127 : ∀ (zM : MdS) (x1 : Int32) (x3 : Int32) (x4 : Int32) (x5 : Int32) (x7 : Int32) (x8 : Int32) (H : Heap) (locs : List Loc) (ls : Array Slot), va_P G vwCl ((wMd cA qM zM)) H → va_D (adr W9) ((wMd cA qM zM)) → va_S (adr W9) s.heap H locs → lv_has ls 16 [(0, .ref (qM 0)), (1, .int x1), (3, .int x3), (4, .int x4), (5, .int x5), (7, .int x7), (8, .int x8)] → kb_127 zM x1 x3 x4 x5 x7 x8 = some res → W p l e rm_X7_add s m args below meth c H locs 0 0 (MQ below (qWi G W9 ((wMd cA qM res.2)) res.1) args s 0 0 (adr W9)) (F0 m 127 ls [])) : ∀ (zM : MdS) (x1 : Int32) (x3 : Int32) (x4 : Int32) (x5 : Int32) (x7 : Int32) (x8 : Int32) (x10 : Int64) (v0 : Int64) (H : Heap) (locs : List Loc) (ls : Array Slot), va_P G vwCl ((wMd cA qM zM)) H → va_D (adr W9) ((wMd cA qM zM)) → va_S (adr W9) s.heap H locs → lv_has ls 16 [(0, .ref (qM 0)), (1, .int x1), (3, .int x3), (4, .int x4), (5, .int x5), (7, .int x7), (8, .int x8), (10, .long x10)] → f_X7_add_238 kb_116 kb_127 zM x1 x3 x4 x5 x7 x8 x10 v0 = some res → W p l e rm_X7_add s m args below meth c H locs 0 0 (MQ below (qWi G W9 ((wMd cA qM res.2)) res.1) args s 0 0 (adr W9)) (F0 m 238 ls [.long v0]) := by
  obtain ⟨hx, hb, hr, hml, hown, hts, hlocks, hK, hR, hRA⟩ := id C0
  intro zM x1 x3 x4 x5 x7 x8 x10 v0 H locs ls hP hD hS hl hf
  unfold f_X7_add_238 at hf
  refine lv_lstore (lv' := [(12, .long v0), (0, .ref (qM 0)), (1, .int x1), (3, .int x3), (4, .int x4), (5, .int x5), (7, .int x7), (8, .int x8), (10, .long x10)]) hx hb dX7_add_238 hl (by decide) rfl (fun ls hl => ?_)
  refine lv_lload hx hb dX7_add_240 (lv_at hl 8 rfl) ?_
  refine lv_lload hx hb dX7_add_242 (lv_at hl 0 rfl) ?_
  obtain ⟨r_1, hr_1, hf⟩ := obd hf
  refine cRlS (As := [.long x10, .long v0]) (rest := []) ⟨hx, hb, hml, hown, hts⟩ (m_X7_gcd l G cA x10 v0 r_1 hr_1) (cw_X7_gcd hts wi_769 ⟨Nat.le_of_ble_eq_true rfl, Nat.le_of_ble_eq_true rfl⟩) hK va_Pnil rfl hl.1 rfl (Nat.le_of_ble_eq_true rfl) dX7_add_244 ⟨Nat.zero_le _, Nat.zero_le _⟩ ?_
  refine lv_lstore (lv' := [(14, .long r_1), (12, .long v0), (0, .ref (qM 0)), (1, .int x1), (3, .int x3), (4, .int x4), (5, .int x5), (7, .int x7), (8, .int x8), (10, .long x10)]) hx hb dX7_add_247 hl (by decide) rfl (fun ls hl => ?_)
  refine lv_aload_n hx hb dX7_add_249 rfl (lv_at hl 2 rfl) ?_
  refine lv_bipush (v := (8 : Int32)) hx hb dX7_add_250 (by decide) ?_
  refine lv_iload hx hb dX7_add_252 (lv_at hl 7 rfl) ?_
  obtain ⟨r_2, hr_2, hf⟩ := obd hf
  refine cRiS (As := [.int x7]) (rest := [.int (8 : Int32), .ref (qM 0)]) ⟨hx, hb, hml, hown, hts⟩ (m_X7_kindOf l G cA x7 r_2 hr_2) (cw_X7_kindOf hts wi_833 ⟨Nat.le_of_ble_eq_true rfl, Nat.le_of_ble_eq_true rfl⟩) hK va_Pnil rfl hl.1 rfl (Nat.le_of_ble_eq_true rfl) dX7_add_254 ⟨Nat.zero_le _, Nat.zero_le _⟩ ?_
  refine lv_iload hx hb dX7_add_257 (lv_at hl 7 rfl) ?_
  obtain ⟨r_3, hr_3, hf⟩ := obd hf
  refine cRiS (As := [.int x7]) (rest := [.int r_2, .int (8 : Int32), .ref (qM 0)]) ⟨hx, hb, hml, hown, hts⟩ (m_X7_countOf l G cA x7 r_3 hr_3) (cw_X7_countOf hts wi_836 ⟨Nat.le_of_ble_eq_true rfl, Nat.le_of_ble_eq_true rfl⟩) hK va_Pnil rfl hl.1 rfl (Nat.le_of_ble_eq_true rfl) dX7_add_259 ⟨Nat.zero_le _, Nat.zero_le _⟩ ?_
  refine lv_iload hx hb dX7_add_262 (lv_at hl 8 rfl) ?_
  refine lv_lload hx hb dX7_add_264 (lv_at hl 9 rfl) ?_
  refine lv_lload hx hb dX7_add_266 (lv_at hl 0 rfl) ?_
  obtain ⟨hn_4, hf⟩ := oif hf
  refine lv_ldiv hx hb dX7_add_268 hn_4 ?_
  refine lv_lload hx hb dX7_add_269 (lv_at hl 1 rfl) ?_
  refine lv_lload hx hb dX7_add_271 (lv_at hl 0 rfl) ?_
  obtain ⟨hn_5, hf⟩ := oif hf
  refine lv_ldiv hx hb dX7_add_273 hn_5 ?_
  obtain ⟨r_6, hr_6, hf⟩ := obd hf
  refine cWvV (As := [.int (8 : Int32), .int r_2, .int r_3, .int x8, .long (x10 / r_1), .long (v0 / r_1)]) (rest := []) (W1 := ((wMd cA qM r_6))) ⟨hx, hb, hml, hown, hts⟩ (m_X7_addTerm l G cA qM zM (8 : Int32) r_2 r_3 x8 (x10 / r_1) (v0 / r_1) r_6 hr_6) (cw_X7_addTerm hts wi_772 ⟨Nat.le_of_ble_eq_true rfl, Nat.le_of_ble_eq_true rfl⟩) hK hP hD hS [0, 1, 2, 3, 4] [5, 6, 7, 8, 9] rfl rfl rfl (by decide) rfl va_Pnil dj_nil (va_recv hK.1 hP (ci := 5) (q0 := 0) rfl rfl) rfl hl.1 rfl (Nat.le_of_ble_eq_true rfl) dX7_add_274 ⟨Nat.zero_le _, Nat.zero_le _⟩ (fun H locs hP hD hS => ?_)
  refine lv_iinc (v := (x8 + 1)) (lv' := [(8, .int (x8 + 1)), (14, .long r_1), (12, .long v0), (0, .ref (qM 0)), (1, .int x1), (3, .int x3), (4, .int x4), (5, .int x5), (7, .int x7), (10, .long x10)]) hx hb dX7_add_277 hl (k := 8) rfl rfl (by decide) rfl (fun ls hl => ?_)
  refine lv_goto (tgt := 127) hx hb dX7_add_280 (by decide) ?_
  exact hkb_127 r_6 x1 x3 x4 x5 x7 (x8 + 1) H locs ls hP hD hS (lv_sub hl [3, 4, 5, 6, 7, 8, 0] rfl) hf
def f_X7_add_217 (kb_116 : MdS → Int32 → Int32 → Int32 → Int32 → Int32 → Option (Int32 × MdS)) (kb_127 : MdS → Int32 → Int32 → Int32 → Int32 → Int32 → Int32 → Option (Int32 × MdS)) (zM : MdS) (x1 : Int32) (x3 : Int32) (x4 : Int32) (x5 : Int32) (x7 : Int32) (x8 : Int32) (x9 : Int32) (x10 : Int64) : Option (Int32 × MdS) := if inb x9 nUD = true then f_X7_add_238 kb_116 kb_127 zM x1 x3 x4 x5 x7 x8 x10 (gM_down zM x9.toNatClampNeg) else none
set_option maxHeartbeats 4000000 in
set_option maxRecDepth 100000 in
theorem b_X7_add_217 {p : Program} {l : Launch} {e : Env} {s : State} {m : MethodId} {args : Array Value} {below : List Frame} {meth : Method} {c : Code} {G : va_G} {cA : Nat → ClassId} {W9 : va_W} (qM : Nat → Nat) (C0 : Amb p s m args meth c cX7_add RX7 16 (some .int) G cA (adr W9) []) {res : Int32 × MdS} (kb_116 : MdS → Int32 → Int32 → Int32 → Int32 → Int32 → Option (Int32 × MdS)) (hkb_116 : ∀ (zM : MdS) (x1 : Int32) (x3 : Int32) (x4 : Int32) (x5 : Int32) (x7 : Int32) (H : Heap) (locs : List Loc) (ls : Array Slot), va_P G vwCl ((wMd cA qM zM)) H → va_D (adr W9) ((wMd cA qM zM)) → va_S (adr W9) s.heap H locs → lv_has ls 16 [(0, .ref (qM 0)), (1, .int x1), (3, .int x3), (4, .int x4), (5, .int x5), (7, .int x7)] → kb_116 zM x1 x3 x4 x5 x7 = some res → W p l e rm_X7_add s m args below meth c H locs 0 0 (MQ below (qWi G W9 ((wMd cA qM res.2)) res.1) args s 0 0 (adr W9)) (F0 m 116 ls [])) (kb_127 : MdS → Int32 → Int32 → Int32 → Int32 → Int32 → Int32 → Option (Int32 × MdS)) (hkb_127 : ∀ (zM : MdS) (x1 : Int32) (x3 : Int32) (x4 : Int32) (x5 : Int32) (x7 : Int32) (x8 : Int32) (H : Heap) (locs : List Loc) (ls : Array Slot), va_P G vwCl ((wMd cA qM zM)) H → va_D (adr W9) ((wMd cA qM zM)) → va_S (adr W9) s.heap H locs → lv_has ls 16 [(0, .ref (qM 0)), (1, .int x1), (3, .int x3), (4, .int x4), (5, .int x5), (7, .int x7), (8, .int x8)] → kb_127 zM x1 x3 x4 x5 x7 x8 = some res → W p l e rm_X7_add s m args below meth c H locs 0 0 (MQ below (qWi G W9 ((wMd cA qM res.2)) res.1) args s 0 0 (adr W9)) (F0 m 127 ls [])) : ∀ (zM : MdS) (x1 : Int32) (x3 : Int32) (x4 : Int32) (x5 : Int32) (x7 : Int32) (x8 : Int32) (x9 : Int32) (x10 : Int64) (H : Heap) (locs : List Loc) (ls : Array Slot), va_P G vwCl ((wMd cA qM zM)) H → va_D (adr W9) ((wMd cA qM zM)) → va_S (adr W9) s.heap H locs → lv_has ls 16 [(0, .ref (qM 0)), (1, .int x1), (3, .int x3), (4, .int x4), (5, .int x5), (7, .int x7), (8, .int x8), (9, .int x9), (10, .long x10)] → f_X7_add_217 kb_116 kb_127 zM x1 x3 x4 x5 x7 x8 x9 x10 = some res → W p l e rm_X7_add s m args below meth c H locs 0 0 (MQ below (qWi G W9 ((wMd cA qM res.2)) res.1) args s 0 0 (adr W9)) (F0 m 217 ls []) := by
  obtain ⟨hx, hb, hr, hml, hown, hts, hlocks, hK, hR, hRA⟩ := id C0
  intro zM x1 x3 x4 x5 x7 x8 x9 x10 H locs ls hP hD hS hl hf
  unfold f_X7_add_217 at hf
  refine lv_aload_n hx hb dX7_add_217 rfl (lv_at hl 0 rfl) ?_
  refine va_get (D := G) (ci := 5) (v := .ref (qM 4)) (C := RX7) (T := TX7) (N := 13) hx hb hts fin_X7 hown hK.1 hP 0 rfl rfl 7 (by decide) (hts _ wi_678) (fun _ h9 => h9) rfl dX7_add_218 ?_
  refine lv_iload hx hb dX7_add_221 (lv_at hl 7 rfl) ?_
  obtain ⟨hi_1, hf⟩ := oif hf
  refine va_lald hx hb hK.1 hP 4 1 rfl rfl (inb_in hi_1) dX7_add_223 ?_
  refine lv_goto (tgt := 238) hx hb dX7_add_224 (by decide) ?_
  exact b_X7_add_238 qM   C0 kb_116 hkb_116 kb_127 hkb_127 zM x1 x3 x4 x5 x7 x8 x10 (gM_down zM x9.toNatClampNeg) H locs ls hP hD hS (lv_sub hl [0, 1, 2, 3, 4, 5, 6, 8] rfl) hf
def f_X7_add_200 (kb_116 : MdS → Int32 → Int32 → Int32 → Int32 → Int32 → Option (Int32 × MdS)) (kb_127 : MdS → Int32 → Int32 → Int32 → Int32 → Int32 → Int32 → Option (Int32 × MdS)) (zM : MdS) (x1 : Int32) (x3 : Int32) (x4 : Int32) (x5 : Int32) (x7 : Int32) (x8 : Int32) (x9 : Int32) (v0 : Int64) : Option (Int32 × MdS) := if x4 = x5 then f_X7_add_217 kb_116 kb_127 zM x1 x3 x4 x5 x7 x8 x9 v0 else if ¬ x4 = (-x5) then if inb x9 nUD = true then f_X7_add_238 kb_116 kb_127 zM x1 x3 x4 x5 x7 x8 v0 ((gM_down zM x9.toNatClampNeg) * x5.toInt64) else none else f_X7_add_217 kb_116 kb_127 zM x1 x3 x4 x5 x7 x8 x9 v0
set_option maxHeartbeats 4000000 in
set_option maxRecDepth 100000 in
theorem b_X7_add_200 {p : Program} {l : Launch} {e : Env} {s : State} {m : MethodId} {args : Array Value} {below : List Frame} {meth : Method} {c : Code} {G : va_G} {cA : Nat → ClassId} {W9 : va_W} (qM : Nat → Nat) (C0 : Amb p s m args meth c cX7_add RX7 16 (some .int) G cA (adr W9) []) {res : Int32 × MdS} (kb_116 : MdS → Int32 → Int32 → Int32 → Int32 → Int32 → Option (Int32 × MdS)) (hkb_116 : ∀ (zM : MdS) (x1 : Int32) (x3 : Int32) (x4 : Int32) (x5 : Int32) (x7 : Int32) (H : Heap) (locs : List Loc) (ls : Array Slot), va_P G vwCl ((wMd cA qM zM)) H → va_D (adr W9) ((wMd cA qM zM)) → va_S (adr W9) s.heap H locs → lv_has ls 16 [(0, .ref (qM 0)), (1, .int x1), (3, .int x3), (4, .int x4), (5, .int x5), (7, .int x7)] → kb_116 zM x1 x3 x4 x5 x7 = some res → W p l e rm_X7_add s m args below meth c H locs 0 0 (MQ below (qWi G W9 ((wMd cA qM res.2)) res.1) args s 0 0 (adr W9)) (F0 m 116 ls [])) (kb_127 : MdS → Int32 → Int32 → Int32 → Int32 → Int32 → Int32 → Option (Int32 × MdS)) (hkb_127 : ∀ (zM : MdS) (x1 : Int32) (x3 : Int32) (x4 : Int32) (x5 : Int32) (x7 : Int32) (x8 : Int32) (H : Heap) (locs : List Loc) (ls : Array Slot), va_P G vwCl ((wMd cA qM zM)) H → va_D (adr W9) ((wMd cA qM zM)) → va_S (adr W9) s.heap H locs → lv_has ls 16 [(0, .ref (qM 0)), (1, .int x1), (3, .int x3), (4, .int x4), (5, .int x5), (7, .int x7), (8, .int x8)] → kb_127 zM x1 x3 x4 x5 x7 x8 = some res → W p l e rm_X7_add s m args below meth c H locs 0 0 (MQ below (qWi G W9 ((wMd cA qM res.2)) res.1) args s 0 0 (adr W9)) (F0 m 127 ls [])) : ∀ (zM : MdS) (x1 : Int32) (x3 : Int32) (x4 : Int32) (x5 : Int32) (x7 : Int32) (x8 : Int32) (x9 : Int32) (v0 : Int64) (H : Heap) (locs : List Loc) (ls : Array Slot), va_P G vwCl ((wMd cA qM zM)) H → va_D (adr W9) ((wMd cA qM zM)) → va_S (adr W9) s.heap H locs → lv_has ls 16 [(0, .ref (qM 0)), (1, .int x1), (3, .int x3), (4, .int x4), (5, .int x5), (7, .int x7), (8, .int x8), (9, .int x9)] → f_X7_add_200 kb_116 kb_127 zM x1 x3 x4 x5 x7 x8 x9 v0 = some res → W p l e rm_X7_add s m args below meth c H locs 0 0 (MQ below (qWi G W9 ((wMd cA qM res.2)) res.1) args s 0 0 (adr W9)) (F0 m 200 ls [.long v0]) := by
  obtain ⟨hx, hb, hr, hml, hown, hts, hlocks, hK, hR, hRA⟩ := id C0
  intro zM x1 x3 x4 x5 x7 x8 x9 v0 H locs ls hP hD hS hl hf
  unfold f_X7_add_200 at hf
  refine lv_lstore (lv' := [(10, .long v0), (0, .ref (qM 0)), (1, .int x1), (3, .int x3), (4, .int x4), (5, .int x5), (7, .int x7), (8, .int x8), (9, .int x9)]) hx hb dX7_add_200 hl (by decide) rfl (fun ls hl => ?_)
  refine lv_iload hx hb dX7_add_202 (lv_at hl 4 rfl) ?_
  refine lv_iload hx hb dX7_add_204 (lv_at hl 5 rfl) ?_
  refine lv_icmp_eq (tgt := 217) hx hb dX7_add_206 (by decide) (fun c_1 => ?_) (fun c_1 => ?_)
  · rw [if_pos (c_1)] at hf
    exact b_X7_add_217 qM   C0 kb_116 hkb_116 kb_127 hkb_127 zM x1 x3 x4 x5 x7 x8 x9 v0 H locs ls hP hD hS (lv_sub hl [1, 2, 3, 4, 5, 6, 7, 8, 0] rfl) hf
  · rw [if_neg (c_1)] at hf
    refine lv_iload hx hb dX7_add_209 (lv_at hl 4 rfl) ?_
    refine lv_iload hx hb dX7_add_211 (lv_at hl 5 rfl) ?_
    refine lv_ineg hx hb dX7_add_213 ?_
    refine lv_icmp_ne (tgt := 227) hx hb dX7_add_214 (by decide) (fun c_2 => ?_) (fun c_2 => ?_)
    · rw [if_pos (c_2)] at hf
      refine lv_aload_n hx hb dX7_add_227 rfl (lv_at hl 1 rfl) ?_
      refine va_get (D := G) (ci := 5) (v := .ref (qM 4)) (C := RX7) (T := TX7) (N := 13) hx hb hts fin_X7 hown hK.1 hP 0 rfl rfl 7 (by decide) (hts _ wi_678) (fun _ h9 => h9) rfl dX7_add_228 ?_
      refine lv_iload hx hb dX7_add_231 (lv_at hl 8 rfl) ?_
      obtain ⟨hi_3, hf⟩ := oif hf
      refine va_lald hx hb hK.1 hP 4 1 rfl rfl (inb_in hi_3) dX7_add_233 ?_
      refine lv_iload hx hb dX7_add_234 (lv_at hl 5 rfl) ?_
      refine lv_i2l (v := x5.toInt64) hx hb dX7_add_236 rfl ?_
      refine lv_lmul hx hb dX7_add_237 ?_
      exact b_X7_add_238 qM   C0 kb_116 hkb_116 kb_127 hkb_127 zM x1 x3 x4 x5 x7 x8 v0 ((gM_down zM x9.toNatClampNeg) * x5.toInt64) H locs ls hP hD hS (lv_sub hl [1, 2, 3, 4, 5, 6, 7, 0] rfl) hf
    · rw [if_neg (not_not_intro c_2)] at hf
      exact b_X7_add_217 qM   C0 kb_116 hkb_116 kb_127 hkb_127 zM x1 x3 x4 x5 x7 x8 x9 v0 H locs ls hP hD hS (lv_sub hl [1, 2, 3, 4, 5, 6, 7, 8, 0] rfl) hf
def f_X7_add_127 (kb_116 : MdS → Int32 → Int32 → Int32 → Int32 → Int32 → Option (Int32 × MdS)) : Nat → MdS → Int32 → Int32 → Int32 → Int32 → Int32 → Int32 → Option (Int32 × MdS)
  | 0, _, _, _, _, _, _, _ => none
  | fu + 1, zM, x1, x3, x4, x5, x7, x8 => if (13 : Int32) ≤ x8 then kb_116 zM x1 x3 x4 x5 (x7 + 1) else (some ((((((1150 : Int32) * x3) + ((25 : Int32) * x7)) + x8) + (12 : Int32)))).bind fun y_2 => if ¬ x4 = x5 then if ¬ x4 = (-x5) then if inb y_2 nUD = true then f_X7_add_200 kb_116 (fun zM_ x1_ x3_ x4_ x5_ x7_ x8_ => f_X7_add_127 kb_116 fu zM_ x1_ x3_ x4_ x5_ x7_ x8_) zM x1 x3 x4 x5 x7 x8 y_2 ((gM_up zM y_2.toNatClampNeg) * x4.toInt64) else none else if inb y_2 nUD = true then f_X7_add_200 kb_116 (fun zM_ x1_ x3_ x4_ x5_ x7_ x8_ => f_X7_add_127 kb_116 fu zM_ x1_ x3_ x4_ x5_ x7_ x8_) zM x1 x3 x4 x5 x7 x8 y_2 (-(gM_up zM y_2.toNatClampNeg)) else none else if inb y_2 nUD = true then f_X7_add_200 kb_116 (fun zM_ x1_ x3_ x4_ x5_ x7_ x8_ => f_X7_add_127 kb_116 fu zM_ x1_ x3_ x4_ x5_ x7_ x8_) zM x1 x3 x4 x5 x7 x8 y_2 (gM_up zM y_2.toNatClampNeg) else none
set_option maxHeartbeats 4000000 in
set_option maxRecDepth 100000 in
theorem b_X7_add_127 {p : Program} {l : Launch} {e : Env} {s : State} {m : MethodId} {args : Array Value} {below : List Frame} {meth : Method} {c : Code} {G : va_G} {cA : Nat → ClassId} {W9 : va_W} (qM : Nat → Nat) (C0 : Amb p s m args meth c cX7_add RX7 16 (some .int) G cA (adr W9) []) {res : Int32 × MdS} (kb_116 : MdS → Int32 → Int32 → Int32 → Int32 → Int32 → Option (Int32 × MdS)) (hkb_116 : ∀ (zM : MdS) (x1 : Int32) (x3 : Int32) (x4 : Int32) (x5 : Int32) (x7 : Int32) (H : Heap) (locs : List Loc) (ls : Array Slot), va_P G vwCl ((wMd cA qM zM)) H → va_D (adr W9) ((wMd cA qM zM)) → va_S (adr W9) s.heap H locs → lv_has ls 16 [(0, .ref (qM 0)), (1, .int x1), (3, .int x3), (4, .int x4), (5, .int x5), (7, .int x7)] → kb_116 zM x1 x3 x4 x5 x7 = some res → W p l e rm_X7_add s m args below meth c H locs 0 0 (MQ below (qWi G W9 ((wMd cA qM res.2)) res.1) args s 0 0 (adr W9)) (F0 m 116 ls [])) : ∀ (fu : Nat) (zM : MdS) (x1 : Int32) (x3 : Int32) (x4 : Int32) (x5 : Int32) (x7 : Int32) (x8 : Int32) (H : Heap) (locs : List Loc) (ls : Array Slot), va_P G vwCl ((wMd cA qM zM)) H → va_D (adr W9) ((wMd cA qM zM)) → va_S (adr W9) s.heap H locs → lv_has ls 16 [(0, .ref (qM 0)), (1, .int x1), (3, .int x3), (4, .int x4), (5, .int x5), (7, .int x7), (8, .int x8)] → f_X7_add_127 kb_116 fu zM x1 x3 x4 x5 x7 x8 = some res → W p l e rm_X7_add s m args below meth c H locs 0 0 (MQ below (qWi G W9 ((wMd cA qM res.2)) res.1) args s 0 0 (adr W9)) (F0 m 127 ls []) := by
  obtain ⟨hx, hb, hr, hml, hown, hts, hlocks, hK, hR, hRA⟩ := id C0
  intro fu
  induction fu with
  | zero =>
    intro zM x1 x3 x4 x5 x7 x8 H locs ls hP hD hS hl hf
    rw [f_X7_add_127] at hf
    cases hf
  | succ fu ih =>
    intro zM x1 x3 x4 x5 x7 x8 H locs ls hP hD hS hl hf
    rw [f_X7_add_127] at hf
    refine lv_iload hx hb dX7_add_127 (lv_at hl 6 rfl) ?_
    refine lv_bipush (v := (13 : Int32)) hx hb dX7_add_129 (by decide) ?_
    refine lv_icmp_ge (tgt := 283) hx hb dX7_add_131 (by decide) (fun c_1 => ?_) (fun c_1 => ?_)
    · rw [if_pos (c_1)] at hf
      refine lv_iinc (v := (x7 + 1)) (lv' := [(7, .int (x7 + 1)), (0, .ref (qM 0)), (1, .int x1), (3, .int x3), (4, .int x4), (5, .int x5), (8, .int x8)]) hx hb dX7_add_283 hl (k := 5) rfl rfl (by decide) rfl (fun ls hl => ?_)
      refine lv_goto (tgt := 116) hx hb dX7_add_286 (by decide) ?_
      exact hkb_116 zM x1 x3 x4 x5 (x7 + 1) H locs ls hP hD hS (lv_sub hl [1, 2, 3, 4, 5, 0] rfl) hf
    · rw [if_neg (c_1)] at hf
      refine lv_sipush (v := (1150 : Int32)) hx hb dX7_add_134 (by decide) ?_
      refine lv_iload_n hx hb dX7_add_137 rfl (lv_at hl 2 rfl) ?_
      refine lv_imul hx hb dX7_add_138 ?_
      refine lv_bipush (v := (25 : Int32)) hx hb dX7_add_139 (by decide) ?_
      refine lv_iload hx hb dX7_add_141 (lv_at hl 5 rfl) ?_
      refine lv_imul hx hb dX7_add_143 ?_
      refine lv_iadd hx hb dX7_add_144 ?_
      refine lv_iload hx hb dX7_add_145 (lv_at hl 6 rfl) ?_
      refine lv_iadd hx hb dX7_add_147 ?_
      refine lv_bipush (v := (12 : Int32)) hx hb dX7_add_148 (by decide) ?_
      refine lv_iadd hx hb dX7_add_150 ?_
      obtain ⟨y_2, hq, hf⟩ := obd hf
      have hy_2 : (((((1150 : Int32) * x3) + ((25 : Int32) * x7)) + x8) + (12 : Int32)) = y_2 := Option.some.inj hq
      rw [hy_2]
      refine lv_istore (lv' := [(9, .int y_2), (0, .ref (qM 0)), (1, .int x1), (3, .int x3), (4, .int x4), (5, .int x5), (7, .int x7), (8, .int x8)]) hx hb dX7_add_151 hl (by decide) rfl (fun ls hl => ?_)
      refine lv_iload hx hb dX7_add_153 (lv_at hl 4 rfl) ?_
      refine lv_iload hx hb dX7_add_155 (lv_at hl 5 rfl) ?_
      refine lv_icmp_ne (tgt := 170) hx hb dX7_add_157 (by decide) (fun c_3 => ?_) (fun c_3 => ?_)
      · rw [if_pos (c_3)] at hf
        refine lv_iload hx hb dX7_add_170 (lv_at hl 4 rfl) ?_
        refine lv_iload hx hb dX7_add_172 (lv_at hl 5 rfl) ?_
        refine lv_ineg hx hb dX7_add_174 ?_
        refine lv_icmp_ne (tgt := 189) hx hb dX7_add_175 (by decide) (fun c_4 => ?_) (fun c_4 => ?_)
        · rw [if_pos (c_4)] at hf
          refine lv_aload_n hx hb dX7_add_189 rfl (lv_at hl 1 rfl) ?_
          refine va_get (D := G) (ci := 5) (v := .ref (qM 3)) (C := RX7) (T := TX7) (N := 13) hx hb hts fin_X7 hown hK.1 hP 0 rfl rfl 6 (by decide) (hts _ wi_677) (fun _ h9 => h9) rfl dX7_add_190 ?_
          refine lv_iload hx hb dX7_add_193 (lv_at hl 0 rfl) ?_
          obtain ⟨hi_5, hf⟩ := oif hf
          refine va_lald hx hb hK.1 hP 3 1 rfl rfl (inb_in hi_5) dX7_add_195 ?_
          refine lv_iload hx hb dX7_add_196 (lv_at hl 4 rfl) ?_
          refine lv_i2l (v := x4.toInt64) hx hb dX7_add_198 rfl ?_
          refine lv_lmul hx hb dX7_add_199 ?_
          exact b_X7_add_200 qM   C0 kb_116 hkb_116 (fun zM_ x1_ x3_ x4_ x5_ x7_ x8_ => f_X7_add_127 kb_116 fu zM_ x1_ x3_ x4_ x5_ x7_ x8_) ih zM x1 x3 x4 x5 x7 x8 y_2 ((gM_up zM y_2.toNatClampNeg) * x4.toInt64) H locs ls hP hD hS (lv_sub hl [1, 2, 3, 4, 5, 6, 7, 0] rfl) hf
        · rw [if_neg (not_not_intro c_4)] at hf
          refine lv_aload_n hx hb dX7_add_178 rfl (lv_at hl 1 rfl) ?_
          refine va_get (D := G) (ci := 5) (v := .ref (qM 3)) (C := RX7) (T := TX7) (N := 13) hx hb hts fin_X7 hown hK.1 hP 0 rfl rfl 6 (by decide) (hts _ wi_677) (fun _ h9 => h9) rfl dX7_add_179 ?_
          refine lv_iload hx hb dX7_add_182 (lv_at hl 0 rfl) ?_
          obtain ⟨hi_6, hf⟩ := oif hf
          refine va_lald hx hb hK.1 hP 3 1 rfl rfl (inb_in hi_6) dX7_add_184 ?_
          refine lv_lneg hx hb dX7_add_185 ?_
          refine lv_goto (tgt := 200) hx hb dX7_add_186 (by decide) ?_
          exact b_X7_add_200 qM   C0 kb_116 hkb_116 (fun zM_ x1_ x3_ x4_ x5_ x7_ x8_ => f_X7_add_127 kb_116 fu zM_ x1_ x3_ x4_ x5_ x7_ x8_) ih zM x1 x3 x4 x5 x7 x8 y_2 (-(gM_up zM y_2.toNatClampNeg)) H locs ls hP hD hS (lv_sub hl [1, 2, 3, 4, 5, 6, 7, 0] rfl) hf
      · rw [if_neg (not_not_intro c_3)] at hf
        refine lv_aload_n hx hb dX7_add_160 rfl (lv_at hl 1 rfl) ?_
        refine va_get (D := G) (ci := 5) (v := .ref (qM 3)) (C := RX7) (T := TX7) (N := 13) hx hb hts fin_X7 hown hK.1 hP 0 rfl rfl 6 (by decide) (hts _ wi_677) (fun _ h9 => h9) rfl dX7_add_161 ?_
        refine lv_iload hx hb dX7_add_164 (lv_at hl 0 rfl) ?_
        obtain ⟨hi_7, hf⟩ := oif hf
        refine va_lald hx hb hK.1 hP 3 1 rfl rfl (inb_in hi_7) dX7_add_166 ?_
        refine lv_goto (tgt := 200) hx hb dX7_add_167 (by decide) ?_
        exact b_X7_add_200 qM   C0 kb_116 hkb_116 (fun zM_ x1_ x3_ x4_ x5_ x7_ x8_ => f_X7_add_127 kb_116 fu zM_ x1_ x3_ x4_ x5_ x7_ x8_) ih zM x1 x3 x4 x5 x7 x8 y_2 (gM_up zM y_2.toNatClampNeg) H locs ls hP hD hS (lv_sub hl [1, 2, 3, 4, 5, 6, 7, 0] rfl) hf
def f_X7_add_116  : Nat → MdS → Int32 → Int32 → Int32 → Int32 → Int32 → Option (Int32 × MdS)
  | 0, _, _, _, _, _, _ => none
  | fu + 1, zM, x1, x3, x4, x5, x7 => if (46 : Int32) ≤ x7 then (f_X7_finish zM x1).bind fun r_2 => some (r_2.1, r_2.2) else f_X7_add_127 (fun zM_ x1_ x3_ x4_ x5_ x7_ => f_X7_add_116  fu zM_ x1_ x3_ x4_ x5_ x7_) fuel zM x1 x3 x4 x5 x7 (-12 : Int32)
set_option maxHeartbeats 4000000 in
set_option maxRecDepth 100000 in
theorem b_X7_add_116 {p : Program} {l : Launch} {e : Env} {s : State} {m : MethodId} {args : Array Value} {below : List Frame} {meth : Method} {c : Code} {G : va_G} {cA : Nat → ClassId} {W9 : va_W} (qM : Nat → Nat) (C0 : Amb p s m args meth c cX7_add RX7 16 (some .int) G cA (adr W9) []) {res : Int32 × MdS} : ∀ (fu : Nat) (zM : MdS) (x1 : Int32) (x3 : Int32) (x4 : Int32) (x5 : Int32) (x7 : Int32) (H : Heap) (locs : List Loc) (ls : Array Slot), va_P G vwCl ((wMd cA qM zM)) H → va_D (adr W9) ((wMd cA qM zM)) → va_S (adr W9) s.heap H locs → lv_has ls 16 [(0, .ref (qM 0)), (1, .int x1), (3, .int x3), (4, .int x4), (5, .int x5), (7, .int x7)] → f_X7_add_116 fu zM x1 x3 x4 x5 x7 = some res → W p l e rm_X7_add s m args below meth c H locs 0 0 (MQ below (qWi G W9 ((wMd cA qM res.2)) res.1) args s 0 0 (adr W9)) (F0 m 116 ls []) := by
  obtain ⟨hx, hb, hr, hml, hown, hts, hlocks, hK, hR, hRA⟩ := id C0
  intro fu
  induction fu with
  | zero =>
    intro zM x1 x3 x4 x5 x7 H locs ls hP hD hS hl hf
    rw [f_X7_add_116] at hf
    cases hf
  | succ fu ih =>
    intro zM x1 x3 x4 x5 x7 H locs ls hP hD hS hl hf
    rw [f_X7_add_116] at hf
    refine lv_iload hx hb dX7_add_116 (lv_at hl 5 rfl) ?_
    refine lv_bipush (v := (46 : Int32)) hx hb dX7_add_118 (by decide) ?_
    refine lv_icmp_ge (tgt := 289) hx hb dX7_add_120 (by decide) (fun c_1 => ?_) (fun c_1 => ?_)
    · rw [if_pos (c_1)] at hf
      refine lv_aload_n hx hb dX7_add_289 rfl (lv_at hl 0 rfl) ?_
      refine lv_iload_n hx hb dX7_add_290 rfl (lv_at hl 1 rfl) ?_
      obtain ⟨r_2, hr_2, hf⟩ := obd hf
      refine cWiV (As := [.int x1]) (rest := []) (W1 := ((wMd cA qM r_2.2))) ⟨hx, hb, hml, hown, hts⟩ (m_X7_finish l G cA qM zM x1 r_2 hr_2) (cw_X7_finish hts wi_790 ⟨Nat.le_of_ble_eq_true rfl, Nat.le_of_ble_eq_true rfl⟩) hK hP hD hS [0, 1, 2, 3, 4] [5, 6, 7, 8, 9] rfl rfl rfl (by decide) rfl va_Pnil dj_nil (va_recv hK.1 hP (ci := 5) (q0 := 0) rfl rfl) rfl hl.1 rfl (Nat.le_of_ble_eq_true rfl) dX7_add_291 ⟨Nat.zero_le _, Nat.zero_le _⟩ (fun H locs hP hD hS => ?_)
      cases hf
      exact W.iret hx hb hr (fun t ht hW => ⟨⟨_, (), rfl, rfl, toT ht hP⟩, hS.F ht⟩) hS.2.2 dX7_add_294 hlocks
    · rw [if_neg (c_1)] at hf
      refine lv_bipush (v := (-12 : Int32)) hx hb dX7_add_123 (by decide) ?_
      refine lv_istore (lv' := [(8, .int (-12 : Int32)), (0, .ref (qM 0)), (1, .int x1), (3, .int x3), (4, .int x4), (5, .int x5), (7, .int x7)]) hx hb dX7_add_125 hl (by decide) rfl (fun ls hl => ?_)
      exact b_X7_add_127 qM   C0 (fun zM_ x1_ x3_ x4_ x5_ x7_ => f_X7_add_116  fu zM_ x1_ x3_ x4_ x5_ x7_) ih fuel zM x1 x3 x4 x5 x7 (-12 : Int32) H locs ls hP hD hS (lv_sub hl [1, 2, 3, 4, 5, 6, 0] rfl) hf
def f_X7_add_93 (zM : MdS) (x1 : Int32) (x2 : Int32) (x3 : Int32) (x4 : Int32) (x5 : Int32) (v1 : Int32) : Option (Int32 × MdS) := (f_X7_refused zM v1).bind fun r_1 => if r_1.1 = 0 then (f_X7_copy (uM_isFull r_1.2 (0 : Int32)) (8 : Int32) x2).bind fun r_3 => f_X7_add_116 fuel r_3 x1 x3 x4 x5 (0 : Int32) else some ((0 : Int32), r_1.2)
set_option maxHeartbeats 4000000 in
set_option maxRecDepth 100000 in
theorem b_X7_add_93 {p : Program} {l : Launch} {e : Env} {s : State} {m : MethodId} {args : Array Value} {below : List Frame} {meth : Method} {c : Code} {G : va_G} {cA : Nat → ClassId} {W9 : va_W} (qM : Nat → Nat) (C0 : Amb p s m args meth c cX7_add RX7 16 (some .int) G cA (adr W9) []) {res : Int32 × MdS} : ∀ (zM : MdS) (x1 : Int32) (x2 : Int32) (x3 : Int32) (x4 : Int32) (x5 : Int32) (v1 : Int32) (H : Heap) (locs : List Loc) (ls : Array Slot), va_P G vwCl ((wMd cA qM zM)) H → va_D (adr W9) ((wMd cA qM zM)) → va_S (adr W9) s.heap H locs → lv_has ls 16 [(0, .ref (qM 0)), (1, .int x1), (2, .int x2), (3, .int x3), (4, .int x4), (5, .int x5)] → f_X7_add_93 zM x1 x2 x3 x4 x5 v1 = some res → W p l e rm_X7_add s m args below meth c H locs 0 0 (MQ below (qWi G W9 ((wMd cA qM res.2)) res.1) args s 0 0 (adr W9)) (F0 m 93 ls [.int v1, .ref (qM 0)]) := by
  obtain ⟨hx, hb, hr, hml, hown, hts, hlocks, hK, hR, hRA⟩ := id C0
  intro zM x1 x2 x3 x4 x5 v1 H locs ls hP hD hS hl hf
  unfold f_X7_add_93 at hf
  obtain ⟨r_1, hr_1, hf⟩ := obd hf
  refine cWiV (As := [.int v1]) (rest := []) (W1 := ((wMd cA qM r_1.2))) ⟨hx, hb, hml, hown, hts⟩ (m_X7_refused l G cA qM zM v1 r_1 hr_1) (cw_X7_refused hts wi_723 ⟨Nat.le_of_ble_eq_true rfl, Nat.le_of_ble_eq_true rfl⟩) hK hP hD hS [0, 1, 2, 3, 4] [5, 6, 7, 8, 9] rfl rfl rfl (by decide) rfl va_Pnil dj_nil (va_recv hK.1 hP (ci := 5) (q0 := 0) rfl rfl) rfl hl.1 rfl (Nat.le_of_ble_eq_true rfl) dX7_add_93 ⟨Nat.zero_le _, Nat.zero_le _⟩ (fun H locs hP hD hS => ?_)
  refine lv_if_eq (tgt := 101) hx hb dX7_add_96 (by decide) (fun c_2 => ?_) (fun c_2 => ?_)
  · rw [if_pos (c_2)] at hf
    refine lv_aload_n hx hb dX7_add_101 rfl (lv_at hl 0 rfl) ?_
    refine lv_iconst (v := 0) hx hb dX7_add_102 (by decide) ?_
    refine va_put (D := G) (ci := 5) (v := .int (0 : Int32)) (ty := .boolean) (C := RX7) (T := TX7) (N := 13) hx hb hts fin_X7 tyX7 tyX7_ok nmX7 hown hK.1 hP hD hS 0 rfl rfl 8 (by decide) (hts _ wi_679) (fun _ h9 => h9) rfl (by decide +kernel) (by decide) (by decide) (Nat.le_of_ble_eq_true rfl) dX7_add_103 (fun H locs hP hD hS => ?_)
    have hP := sM_isFull_P hP
    have hD := sM_isFull_D hD
    refine lv_aload_n hx hb dX7_add_106 rfl (lv_at hl 0 rfl) ?_
    refine lv_bipush (v := (8 : Int32)) hx hb dX7_add_107 (by decide) ?_
    refine lv_iload_n hx hb dX7_add_109 rfl (lv_at hl 2 rfl) ?_
    obtain ⟨r_3, hr_3, hf⟩ := obd hf
    refine cWvV (As := [.int (8 : Int32), .int x2]) (rest := []) (W1 := ((wMd cA qM r_3))) ⟨hx, hb, hml, hown, hts⟩ (m_X7_copy l G cA qM (uM_isFull r_1.2 (0 : Int32)) (8 : Int32) x2 r_3 hr_3) (cw_X7_copy hts wi_802 ⟨Nat.le_of_ble_eq_true rfl, Nat.le_of_ble_eq_true rfl⟩) hK hP hD hS [0, 1, 2, 3, 4] [5, 6, 7, 8, 9] rfl rfl rfl (by decide) rfl va_Pnil dj_nil (va_recv hK.1 hP (ci := 5) (q0 := 0) rfl rfl) rfl hl.1 rfl (Nat.le_of_ble_eq_true rfl) dX7_add_110 ⟨Nat.zero_le _, Nat.zero_le _⟩ (fun H locs hP hD hS => ?_)
    refine lv_iconst (v := 0) hx hb dX7_add_113 (by decide) ?_
    refine lv_istore (lv' := [(7, .int (0 : Int32)), (0, .ref (qM 0)), (1, .int x1), (2, .int x2), (3, .int x3), (4, .int x4), (5, .int x5)]) hx hb dX7_add_114 hl (by decide) rfl (fun ls hl => ?_)
    exact b_X7_add_116 qM   C0  fuel r_3 x1 x3 x4 x5 (0 : Int32) H locs ls hP hD hS (lv_sub hl [1, 2, 4, 5, 6, 0] rfl) hf
  · rw [if_neg (c_2)] at hf
    refine lv_iconst (v := 0) hx hb dX7_add_99 (by decide) ?_
    cases hf
    exact W.iret hx hb hr (fun t ht hW => ⟨⟨_, (), rfl, rfl, toT ht hP⟩, hS.F ht⟩) hS.2.2 dX7_add_100 hlocks
def f_X7_add_92 (zM : MdS) (x1 : Int32) (x2 : Int32) (x3 : Int32) (x4 : Int32) (x5 : Int32) : Option (Int32 × MdS) := f_X7_add_93  zM x1 x2 x3 x4 x5 (0 : Int32)
set_option maxHeartbeats 4000000 in
set_option maxRecDepth 100000 in
theorem b_X7_add_92 {p : Program} {l : Launch} {e : Env} {s : State} {m : MethodId} {args : Array Value} {below : List Frame} {meth : Method} {c : Code} {G : va_G} {cA : Nat → ClassId} {W9 : va_W} (qM : Nat → Nat) (C0 : Amb p s m args meth c cX7_add RX7 16 (some .int) G cA (adr W9) []) {res : Int32 × MdS} : ∀ (zM : MdS) (x1 : Int32) (x2 : Int32) (x3 : Int32) (x4 : Int32) (x5 : Int32) (H : Heap) (locs : List Loc) (ls : Array Slot), va_P G vwCl ((wMd cA qM zM)) H → va_D (adr W9) ((wMd cA qM zM)) → va_S (adr W9) s.heap H locs → lv_has ls 16 [(0, .ref (qM 0)), (1, .int x1), (2, .int x2), (3, .int x3), (4, .int x4), (5, .int x5)] → f_X7_add_92 zM x1 x2 x3 x4 x5 = some res → W p l e rm_X7_add s m args below meth c H locs 0 0 (MQ below (qWi G W9 ((wMd cA qM res.2)) res.1) args s 0 0 (adr W9)) (F0 m 92 ls [.ref (qM 0)]) := by
  obtain ⟨hx, hb, hr, hml, hown, hts, hlocks, hK, hR, hRA⟩ := id C0
  intro zM x1 x2 x3 x4 x5 H locs ls hP hD hS hl hf
  unfold f_X7_add_92 at hf
  refine lv_iconst (v := 0) hx hb dX7_add_92 (by decide) ?_
  exact b_X7_add_93 qM   C0  zM x1 x2 x3 x4 x5 (0 : Int32) H locs ls hP hD hS (lv_sub hl [0, 1, 2, 3, 4, 5] rfl) hf
def f_X7_add_53 (zM : MdS) (x1 : Int32) (x2 : Int32) (x3 : Int32) (x4 : Int32) (x5 : Int32) (v0 : Int32) : Option (Int32 × MdS) := if ¬ v0 = 0 then if x4 = x5 then f_X7_add_92  zM x1 x2 x3 x4 x5 else if x4 = (-x5) then f_X7_add_92  zM x1 x2 x3 x4 x5 else (f_X7_isSmall zM x3).bind fun r_4 => if ¬ r_4 = 0 then f_X7_add_92  zM x1 x2 x3 x4 x5 else f_X7_add_93  zM x1 x2 x3 x4 x5 (2 : Int32) else f_X7_add_93  zM x1 x2 x3 x4 x5 (1 : Int32)
set_option maxHeartbeats 4000000 in
set_option maxRecDepth 100000 in
theorem b_X7_add_53 {p : Program} {l : Launch} {e : Env} {s : State} {m : MethodId} {args : Array Value} {below : List Frame} {meth : Method} {c : Code} {G : va_G} {cA : Nat → ClassId} {W9 : va_W} (qM : Nat → Nat) (C0 : Amb p s m args meth c cX7_add RX7 16 (some .int) G cA (adr W9) []) {res : Int32 × MdS} : ∀ (zM : MdS) (x1 : Int32) (x2 : Int32) (x3 : Int32) (x4 : Int32) (x5 : Int32) (v0 : Int32) (H : Heap) (locs : List Loc) (ls : Array Slot), va_P G vwCl ((wMd cA qM zM)) H → va_D (adr W9) ((wMd cA qM zM)) → va_S (adr W9) s.heap H locs → lv_has ls 16 [(0, .ref (qM 0)), (1, .int x1), (2, .int x2), (3, .int x3), (4, .int x4), (5, .int x5)] → f_X7_add_53 zM x1 x2 x3 x4 x5 v0 = some res → W p l e rm_X7_add s m args below meth c H locs 0 0 (MQ below (qWi G W9 ((wMd cA qM res.2)) res.1) args s 0 0 (adr W9)) (F0 m 53 ls [.int v0]) := by
  obtain ⟨hx, hb, hr, hml, hown, hts, hlocks, hK, hR, hRA⟩ := id C0
  intro zM x1 x2 x3 x4 x5 v0 H locs ls hP hD hS hl hf
  unfold f_X7_add_53 at hf
  refine lv_istore (lv' := [(6, .int v0), (0, .ref (qM 0)), (1, .int x1), (2, .int x2), (3, .int x3), (4, .int x4), (5, .int x5)]) hx hb dX7_add_53 hl (by decide) rfl (fun ls hl => ?_)
  refine lv_aload_n hx hb dX7_add_55 rfl (lv_at hl 1 rfl) ?_
  refine lv_iload hx hb dX7_add_56 (lv_at hl 0 rfl) ?_
  refine lv_if_ne (tgt := 65) hx hb dX7_add_58 (by decide) (fun c_1 => ?_) (fun c_1 => ?_)
  · rw [if_pos (c_1)] at hf
    refine lv_iload hx hb dX7_add_65 (lv_at hl 5 rfl) ?_
    refine lv_iload hx hb dX7_add_67 (lv_at hl 6 rfl) ?_
    refine lv_icmp_eq (tgt := 92) hx hb dX7_add_69 (by decide) (fun c_2 => ?_) (fun c_2 => ?_)
    · rw [if_pos (c_2)] at hf
      exact b_X7_add_92 qM   C0  zM x1 x2 x3 x4 x5 H locs ls hP hD hS (lv_sub hl [1, 2, 3, 4, 5, 6] rfl) hf
    · rw [if_neg (c_2)] at hf
      refine lv_iload hx hb dX7_add_72 (lv_at hl 5 rfl) ?_
      refine lv_iload hx hb dX7_add_74 (lv_at hl 6 rfl) ?_
      refine lv_ineg hx hb dX7_add_76 ?_
      refine lv_icmp_eq (tgt := 92) hx hb dX7_add_77 (by decide) (fun c_3 => ?_) (fun c_3 => ?_)
      · rw [if_pos (c_3)] at hf
        exact b_X7_add_92 qM   C0  zM x1 x2 x3 x4 x5 H locs ls hP hD hS (lv_sub hl [1, 2, 3, 4, 5, 6] rfl) hf
      · rw [if_neg (c_3)] at hf
        refine lv_aload_n hx hb dX7_add_80 rfl (lv_at hl 1 rfl) ?_
        refine lv_iload_n hx hb dX7_add_81 rfl (lv_at hl 4 rfl) ?_
        obtain ⟨r_4, hr_4, hf⟩ := obd hf
        refine cRiV (As := [.int x3]) (rest := [.ref (qM 0)]) ⟨hx, hb, hml, hown, hts⟩ (m_X7_isSmall l G cA qM zM x3 r_4 hr_4) (cw_X7_isSmall hts wi_847 ⟨Nat.le_of_ble_eq_true rfl, Nat.le_of_ble_eq_true rfl⟩) hK (pk hP [0, 1, 2, 3, 4] rfl) (va_recv hK.1 hP (ci := 5) (q0 := 0) rfl rfl) rfl hl.1 rfl (Nat.le_of_ble_eq_true rfl) dX7_add_82 ⟨Nat.zero_le _, Nat.zero_le _⟩ ?_
        refine lv_if_ne (tgt := 92) hx hb dX7_add_85 (by decide) (fun c_5 => ?_) (fun c_5 => ?_)
        · rw [if_pos (c_5)] at hf
          exact b_X7_add_92 qM   C0  zM x1 x2 x3 x4 x5 H locs ls hP hD hS (lv_sub hl [1, 2, 3, 4, 5, 6] rfl) hf
        · rw [if_neg (not_not_intro c_5)] at hf
          refine lv_iconst (v := 2) hx hb dX7_add_88 (by decide) ?_
          refine lv_goto (tgt := 93) hx hb dX7_add_89 (by decide) ?_
          exact b_X7_add_93 qM   C0  zM x1 x2 x3 x4 x5 (2 : Int32) H locs ls hP hD hS (lv_sub hl [1, 2, 3, 4, 5, 6] rfl) hf
  · rw [if_neg (not_not_intro c_1)] at hf
    refine lv_iconst (v := 1) hx hb dX7_add_61 (by decide) ?_
    refine lv_goto (tgt := 93) hx hb dX7_add_62 (by decide) ?_
    exact b_X7_add_93 qM   C0  zM x1 x2 x3 x4 x5 (1 : Int32) H locs ls hP hD hS (lv_sub hl [1, 2, 3, 4, 5, 6] rfl) hf
def f_X7_add_52 (zM : MdS) (x1 : Int32) (x2 : Int32) (x3 : Int32) (x4 : Int32) (x5 : Int32) : Option (Int32 × MdS) := f_X7_add_53  zM x1 x2 x3 x4 x5 (0 : Int32)
set_option maxHeartbeats 4000000 in
set_option maxRecDepth 100000 in
theorem b_X7_add_52 {p : Program} {l : Launch} {e : Env} {s : State} {m : MethodId} {args : Array Value} {below : List Frame} {meth : Method} {c : Code} {G : va_G} {cA : Nat → ClassId} {W9 : va_W} (qM : Nat → Nat) (C0 : Amb p s m args meth c cX7_add RX7 16 (some .int) G cA (adr W9) []) {res : Int32 × MdS} : ∀ (zM : MdS) (x1 : Int32) (x2 : Int32) (x3 : Int32) (x4 : Int32) (x5 : Int32) (H : Heap) (locs : List Loc) (ls : Array Slot), va_P G vwCl ((wMd cA qM zM)) H → va_D (adr W9) ((wMd cA qM zM)) → va_S (adr W9) s.heap H locs → lv_has ls 16 [(0, .ref (qM 0)), (1, .int x1), (2, .int x2), (3, .int x3), (4, .int x4), (5, .int x5)] → f_X7_add_52 zM x1 x2 x3 x4 x5 = some res → W p l e rm_X7_add s m args below meth c H locs 0 0 (MQ below (qWi G W9 ((wMd cA qM res.2)) res.1) args s 0 0 (adr W9)) (F0 m 52 ls []) := by
  obtain ⟨hx, hb, hr, hml, hown, hts, hlocks, hK, hR, hRA⟩ := id C0
  intro zM x1 x2 x3 x4 x5 H locs ls hP hD hS hl hf
  unfold f_X7_add_52 at hf
  refine lv_iconst (v := 0) hx hb dX7_add_52 (by decide) ?_
  exact b_X7_add_53 qM   C0  zM x1 x2 x3 x4 x5 (0 : Int32) H locs ls hP hD hS (lv_sub hl [0, 1, 2, 3, 4, 5] rfl) hf
def f_X7_add (zM : MdS) (a1 : Int32) (a2 : Int32) (a3 : Int32) (a4 : Int32) (a5 : Int32) : Option (Int32 × MdS) := (f_X7_isSlot a1).bind fun r_1 => if r_1 = 0 then f_X7_add_52  zM a1 a2 a3 a4 a5 else (f_X7_isSlot a2).bind fun r_3 => if r_3 = 0 then f_X7_add_52  zM a1 a2 a3 a4 a5 else (f_X7_isSlot a3).bind fun r_5 => if r_5 = 0 then f_X7_add_52  zM a1 a2 a3 a4 a5 else if a4 < (-100 : Int32) then f_X7_add_52  zM a1 a2 a3 a4 a5 else if (100 : Int32) < a4 then f_X7_add_52  zM a1 a2 a3 a4 a5 else if a5 < (1 : Int32) then f_X7_add_52  zM a1 a2 a3 a4 a5 else if (6 : Int32) < a5 then f_X7_add_52  zM a1 a2 a3 a4 a5 else f_X7_add_53  zM a1 a2 a3 a4 a5 (1 : Int32)
set_option maxHeartbeats 4000000 in
set_option maxRecDepth 100000 in
theorem b_X7_add_0 {p : Program} {l : Launch} {e : Env} {s : State} {m : MethodId} {args : Array Value} {below : List Frame} {meth : Method} {c : Code} {G : va_G} {cA : Nat → ClassId} {W9 : va_W} (qM : Nat → Nat) (C0 : Amb p s m args meth c cX7_add RX7 16 (some .int) G cA (adr W9) []) {res : Int32 × MdS} : ∀ (zM : MdS) (a1 : Int32) (a2 : Int32) (a3 : Int32) (a4 : Int32) (a5 : Int32) (H : Heap) (locs : List Loc) (ls : Array Slot), va_P G vwCl ((wMd cA qM zM)) H → va_D (adr W9) ((wMd cA qM zM)) → va_S (adr W9) s.heap H locs → lv_has ls 16 [(0, .ref (qM 0)), (1, .int a1), (2, .int a2), (3, .int a3), (4, .int a4), (5, .int a5)] → f_X7_add zM a1 a2 a3 a4 a5 = some res → W p l e rm_X7_add s m args below meth c H locs 0 0 (MQ below (qWi G W9 ((wMd cA qM res.2)) res.1) args s 0 0 (adr W9)) (F0 m 0 ls []) := by
  obtain ⟨hx, hb, hr, hml, hown, hts, hlocks, hK, hR, hRA⟩ := id C0
  intro zM a1 a2 a3 a4 a5 H locs ls hP hD hS hl hf
  unfold f_X7_add at hf
  refine lv_iload_n hx hb dX7_add_0 rfl (lv_at hl 1 rfl) ?_
  obtain ⟨r_1, hr_1, hf⟩ := obd hf
  refine cRiS (As := [.int a1]) (rest := []) ⟨hx, hb, hml, hown, hts⟩ (m_X7_isSlot l G cA a1 r_1 hr_1) (cw_X7_isSlot hts wi_735 ⟨Nat.le_of_ble_eq_true rfl, Nat.le_of_ble_eq_true rfl⟩) hK va_Pnil rfl hl.1 rfl (Nat.le_of_ble_eq_true rfl) dX7_add_1 ⟨Nat.zero_le _, Nat.zero_le _⟩ ?_
  refine lv_if_eq (tgt := 52) hx hb dX7_add_4 (by decide) (fun c_2 => ?_) (fun c_2 => ?_)
  · rw [if_pos (c_2)] at hf
    exact b_X7_add_52 qM   C0  zM a1 a2 a3 a4 a5 H locs ls hP hD hS (lv_sub hl [0, 1, 2, 3, 4, 5] rfl) hf
  · rw [if_neg (c_2)] at hf
    refine lv_iload_n hx hb dX7_add_7 rfl (lv_at hl 2 rfl) ?_
    obtain ⟨r_3, hr_3, hf⟩ := obd hf
    refine cRiS (As := [.int a2]) (rest := []) ⟨hx, hb, hml, hown, hts⟩ (m_X7_isSlot l G cA a2 r_3 hr_3) (cw_X7_isSlot hts wi_735 ⟨Nat.le_of_ble_eq_true rfl, Nat.le_of_ble_eq_true rfl⟩) hK va_Pnil rfl hl.1 rfl (Nat.le_of_ble_eq_true rfl) dX7_add_8 ⟨Nat.zero_le _, Nat.zero_le _⟩ ?_
    refine lv_if_eq (tgt := 52) hx hb dX7_add_11 (by decide) (fun c_4 => ?_) (fun c_4 => ?_)
    · rw [if_pos (c_4)] at hf
      exact b_X7_add_52 qM   C0  zM a1 a2 a3 a4 a5 H locs ls hP hD hS (lv_sub hl [0, 1, 2, 3, 4, 5] rfl) hf
    · rw [if_neg (c_4)] at hf
      refine lv_iload_n hx hb dX7_add_14 rfl (lv_at hl 3 rfl) ?_
      obtain ⟨r_5, hr_5, hf⟩ := obd hf
      refine cRiS (As := [.int a3]) (rest := []) ⟨hx, hb, hml, hown, hts⟩ (m_X7_isSlot l G cA a3 r_5 hr_5) (cw_X7_isSlot hts wi_735 ⟨Nat.le_of_ble_eq_true rfl, Nat.le_of_ble_eq_true rfl⟩) hK va_Pnil rfl hl.1 rfl (Nat.le_of_ble_eq_true rfl) dX7_add_15 ⟨Nat.zero_le _, Nat.zero_le _⟩ ?_
      refine lv_if_eq (tgt := 52) hx hb dX7_add_18 (by decide) (fun c_6 => ?_) (fun c_6 => ?_)
      · rw [if_pos (c_6)] at hf
        exact b_X7_add_52 qM   C0  zM a1 a2 a3 a4 a5 H locs ls hP hD hS (lv_sub hl [0, 1, 2, 3, 4, 5] rfl) hf
      · rw [if_neg (c_6)] at hf
        refine lv_iload hx hb dX7_add_21 (lv_at hl 4 rfl) ?_
        refine lv_bipush (v := (-100 : Int32)) hx hb dX7_add_23 (by decide) ?_
        refine lv_icmp_lt (tgt := 52) hx hb dX7_add_25 (by decide) (fun c_7 => ?_) (fun c_7 => ?_)
        · rw [if_pos (c_7)] at hf
          exact b_X7_add_52 qM   C0  zM a1 a2 a3 a4 a5 H locs ls hP hD hS (lv_sub hl [0, 1, 2, 3, 4, 5] rfl) hf
        · rw [if_neg (c_7)] at hf
          refine lv_iload hx hb dX7_add_28 (lv_at hl 4 rfl) ?_
          refine lv_bipush (v := (100 : Int32)) hx hb dX7_add_30 (by decide) ?_
          refine lv_icmp_gt (tgt := 52) hx hb dX7_add_32 (by decide) (fun c_8 => ?_) (fun c_8 => ?_)
          · rw [if_pos (c_8)] at hf
            exact b_X7_add_52 qM   C0  zM a1 a2 a3 a4 a5 H locs ls hP hD hS (lv_sub hl [0, 1, 2, 3, 4, 5] rfl) hf
          · rw [if_neg (c_8)] at hf
            refine lv_iload hx hb dX7_add_35 (lv_at hl 5 rfl) ?_
            refine lv_iconst (v := 1) hx hb dX7_add_37 (by decide) ?_
            refine lv_icmp_lt (tgt := 52) hx hb dX7_add_38 (by decide) (fun c_9 => ?_) (fun c_9 => ?_)
            · rw [if_pos (c_9)] at hf
              exact b_X7_add_52 qM   C0  zM a1 a2 a3 a4 a5 H locs ls hP hD hS (lv_sub hl [0, 1, 2, 3, 4, 5] rfl) hf
            · rw [if_neg (c_9)] at hf
              refine lv_iload hx hb dX7_add_41 (lv_at hl 5 rfl) ?_
              refine lv_bipush (v := (6 : Int32)) hx hb dX7_add_43 (by decide) ?_
              refine lv_icmp_gt (tgt := 52) hx hb dX7_add_45 (by decide) (fun c_10 => ?_) (fun c_10 => ?_)
              · rw [if_pos (c_10)] at hf
                exact b_X7_add_52 qM   C0  zM a1 a2 a3 a4 a5 H locs ls hP hD hS (lv_sub hl [0, 1, 2, 3, 4, 5] rfl) hf
              · rw [if_neg (c_10)] at hf
                refine lv_iconst (v := 1) hx hb dX7_add_48 (by decide) ?_
                refine lv_goto (tgt := 53) hx hb dX7_add_49 (by decide) ?_
                exact b_X7_add_53 qM   C0  zM a1 a2 a3 a4 a5 (1 : Int32) H locs ls hP hD hS (lv_sub hl [0, 1, 2, 3, 4, 5] rfl) hf

set_option maxRecDepth 100000 in
theorem m_X7_add (l : Launch) (G : va_G) (cA : Nat → ClassId) (qM : Nat → Nat) (zM : MdS) (a1 : Int32) (a2 : Int32) (a3 : Int32) (a4 : Int32) (a5 : Int32) (res : Int32 × MdS) (hf : f_X7_add zM a1 a2 a3 a4 a5 = some res) : MWi l yX7_add (.code yX7_add cX7_add 16 (some .int) :: wd) rm_X7_add G cA [.ref (qM 0), .int a1, .int a2, .int a3, .int a4, .int a5] ((wMd cA qM zM)) [] ((wMd cA qM res.2)) res.1 := by
  refine Met.ofW (cc := cX7_add) (maxL := 16) (ret := (some .int)) (by decide) rfl ?_
  intro p e s m args below meth c s₁ B hml hv
  obtain ⟨rfl, hK, hP, hD0, hR, hRA⟩ := hv
  have C0 : Amb p s m ([.ref (qM 0), .int a1, .int a2, .int a3, .int a4, .int a5] : List Value).toArray meth c cX7_add RX7 16 (some .int) G cA (adr ((wMd cA qM zM))) [] := ⟨B.exec, B.bytes, B.returns, hml, findClass_of_methodNamed B.named, fun w h => atoms_spec (ws := (.code yX7_add cX7_add 16 (some .int) :: wd)) B.pre w (List.mem_cons_of_mem _ h), B.notSynchronized, hK, hR, hRA⟩
  have hl := lv_entry ([.ref (qM 0), .int a1, .int a2, .int a3, .int a4, .int a5]) (n := 16) (Nat.le_of_ble_eq_true rfl)
  rw [lg_entry_eq]
  generalize (lg_sl ([.ref (qM 0), .int a1, .int a2, .int a3, .int a4, .int a5]) ++ List.replicate (16 - (lg_sl ([.ref (qM 0), .int a1, .int a2, .int a3, .int a4, .int a5])).length) Slot.unset).toArray = ls at hl ⊢
  have hl : lv_has ls 16 [(0, .ref (qM 0)), (1, .int a1), (2, .int a2), (3, .int a3), (4, .int a4), (5, .int a5)] := hl
  exact b_X7_add_0 (W9 := ((wMd cA qM zM))) qM   C0 zM a1 a2 a3 a4 a5 s.heap [] ls hP (adr.self hD0) va_S.rf hl hf
theorem cw_X7_add {R : Room} {s : State} {args : Array Value} {own : String} {index : Nat} (ht : ∀ w ∈ wd, w.before args s = true) (hlink : Cond.methodLink own index yX7_add ∈ wd) (hR : rm_X7_add.frames + 1 ≤ R.frames ∧ 8 + (16 + 11) + rm_X7_add.locals ≤ R.locals) : CallW R s args own RX7 index yX7_add cX7_add 16 (some .int) (.code yX7_add cX7_add 16 (some .int) :: wd) rm_X7_add 0 0 5 := cwV9 5 ht wi_846 wi_844 wi_845 wi_60 hlink (by decide +kernel) rfl rfl hR
