def rm_X7_multiply : Room := { frames := 2, cells := 0, slots := 0, locals := 68 }
def f_X7_multiply_191 (zM : MdS) (x3 : Int32) (x4 : Int64) (x6 : Int64) (x12 : Int32) (v0 : Int32) : Option (MdS) := (f_X7_addTerm zM (8 : Int32) (3 : Int32) (x12 + v0) x3 x4 ((2 : Int64) * x6)).bind fun r_1 => (f_X7_addTerm r_1 (8 : Int32) (3 : Int32) (x12 - v0) x3 x4 ((2 : Int64) * x6)).bind fun r_2 => some r_2
set_option maxHeartbeats 4000000 in
set_option maxRecDepth 100000 in
theorem b_X7_multiply_191 {p : Program} {l : Launch} {e : Env} {s : State} {m : MethodId} {args : Array Value} {below : List Frame} {meth : Method} {c : Code} {G : va_G} {cA : Nat → ClassId} {W9 : va_W} (qM : Nat → Nat) (C0 : Amb p s m args meth c cX7_multiply RX7 14 none G cA (adr W9) []) {res : MdS} : ∀ (zM : MdS) (x3 : Int32) (x4 : Int64) (x6 : Int64) (x12 : Int32) (v0 : Int32) (H : Heap) (locs : List Loc) (ls : Array Slot), va_P G vwCl ((wMd cA qM zM)) H → va_D (adr W9) ((wMd cA qM zM)) → va_S (adr W9) s.heap H locs → lv_has ls 14 [(0, .ref (qM 0)), (3, .int x3), (4, .long x4), (6, .long x6), (12, .int x12)] → f_X7_multiply_191 zM x3 x4 x6 x12 v0 = some res → W p l e rm_X7_multiply s m args below meth c H locs 0 0 (MQ below (qWv G W9 ((wMd cA qM res))) args s 0 0 (adr W9)) (F0 m 191 ls [.int v0]) := by
  obtain ⟨hx, hb, hr, hml, hown, hts, hlocks, hK, hR, hRA⟩ := id C0
  intro zM x3 x4 x6 x12 v0 H locs ls hP hD hS hl hf
  unfold f_X7_multiply_191 at hf
  refine lv_istore (lv' := [(13, .int v0), (0, .ref (qM 0)), (3, .int x3), (4, .long x4), (6, .long x6), (12, .int x12)]) hx hb dX7_multiply_191 hl (by decide) rfl (fun ls hl => ?_)
  refine lv_aload_n hx hb dX7_multiply_193 rfl (lv_at hl 1 rfl) ?_
  refine lv_bipush (v := (8 : Int32)) hx hb dX7_multiply_194 (by decide) ?_
  refine lv_iconst (v := 3) hx hb dX7_multiply_196 (by decide) ?_
  refine lv_iload hx hb dX7_multiply_197 (lv_at hl 5 rfl) ?_
  refine lv_iload hx hb dX7_multiply_199 (lv_at hl 0 rfl) ?_
  refine lv_iadd hx hb dX7_multiply_201 ?_
  refine lv_iload_n hx hb dX7_multiply_202 rfl (lv_at hl 2 rfl) ?_
  refine lv_lload hx hb dX7_multiply_203 (lv_at hl 3 rfl) ?_
  refine lv_ldc2 (v := (2 : Int64)) hx hb hown (hts _ wi_865) dX7_multiply_205 ?_
  refine lv_lload hx hb dX7_multiply_208 (lv_at hl 4 rfl) ?_
  refine lv_lmul hx hb dX7_multiply_210 ?_
  obtain ⟨r_1, hr_1, hf⟩ := obd hf
  refine cWvV (As := [.int (8 : Int32), .int (3 : Int32), .int (x12 + v0), .int x3, .long x4, .long ((2 : Int64) * x6)]) (rest := []) (W1 := ((wMd cA qM r_1))) ⟨hx, hb, hml, hown, hts⟩ (m_X7_addTerm l G cA qM zM (8 : Int32) (3 : Int32) (x12 + v0) x3 x4 ((2 : Int64) * x6) r_1 hr_1) (cw_X7_addTerm hts wi_772 ⟨Nat.le_of_ble_eq_true rfl, Nat.le_of_ble_eq_true rfl⟩) hK hP hD hS [0, 1, 2, 3, 4] [5, 6, 7, 8, 9] rfl rfl rfl (by decide) rfl va_Pnil dj_nil (va_recv hK.1 hP (ci := 5) (q0 := 0) rfl rfl) rfl hl.1 rfl (Nat.le_of_ble_eq_true rfl) dX7_multiply_211 ⟨Nat.zero_le _, Nat.zero_le _⟩ (fun H locs hP hD hS => ?_)
  refine lv_aload_n hx hb dX7_multiply_214 rfl (lv_at hl 1 rfl) ?_
  refine lv_bipush (v := (8 : Int32)) hx hb dX7_multiply_215 (by decide) ?_
  refine lv_iconst (v := 3) hx hb dX7_multiply_217 (by decide) ?_
  refine lv_iload hx hb dX7_multiply_218 (lv_at hl 5 rfl) ?_
  refine lv_iload hx hb dX7_multiply_220 (lv_at hl 0 rfl) ?_
  refine lv_isub hx hb dX7_multiply_222 ?_
  refine lv_iload_n hx hb dX7_multiply_223 rfl (lv_at hl 2 rfl) ?_
  refine lv_lload hx hb dX7_multiply_224 (lv_at hl 3 rfl) ?_
  refine lv_ldc2 (v := (2 : Int64)) hx hb hown (hts _ wi_865) dX7_multiply_226 ?_
  refine lv_lload hx hb dX7_multiply_229 (lv_at hl 4 rfl) ?_
  refine lv_lmul hx hb dX7_multiply_231 ?_
  obtain ⟨r_2, hr_2, hf⟩ := obd hf
  refine cWvV (As := [.int (8 : Int32), .int (3 : Int32), .int (x12 - v0), .int x3, .long x4, .long ((2 : Int64) * x6)]) (rest := []) (W1 := ((wMd cA qM r_2))) ⟨hx, hb, hml, hown, hts⟩ (m_X7_addTerm l G cA qM r_1 (8 : Int32) (3 : Int32) (x12 - v0) x3 x4 ((2 : Int64) * x6) r_2 hr_2) (cw_X7_addTerm hts wi_772 ⟨Nat.le_of_ble_eq_true rfl, Nat.le_of_ble_eq_true rfl⟩) hK hP hD hS [0, 1, 2, 3, 4] [5, 6, 7, 8, 9] rfl rfl rfl (by decide) rfl va_Pnil dj_nil (va_recv hK.1 hP (ci := 5) (q0 := 0) rfl rfl) rfl hl.1 rfl (Nat.le_of_ble_eq_true rfl) dX7_multiply_232 ⟨Nat.zero_le _, Nat.zero_le _⟩ (fun H locs hP hD hS => ?_)
  cases hf
  exact W.vret hx hb hr (fun t ht hW => ⟨⟨(), rfl, trivial, toT ht hP⟩, hS.F ht⟩) hS.2.2 dX7_multiply_235 hlocks
def f_X7_multiply_176 (zM : MdS) (x3 : Int32) (x4 : Int64) (x6 : Int64) (x8 : Int32) (x10 : Int32) (x11 : Int32) (v0 : Int32) : Option (MdS) := if ¬ x8 = (3 : Int32) then f_X7_multiply_191  zM x3 x4 x6 v0 x10 else f_X7_multiply_191  zM x3 x4 x6 v0 x11
set_option maxHeartbeats 4000000 in
set_option maxRecDepth 100000 in
theorem b_X7_multiply_176 {p : Program} {l : Launch} {e : Env} {s : State} {m : MethodId} {args : Array Value} {below : List Frame} {meth : Method} {c : Code} {G : va_G} {cA : Nat → ClassId} {W9 : va_W} (qM : Nat → Nat) (C0 : Amb p s m args meth c cX7_multiply RX7 14 none G cA (adr W9) []) {res : MdS} : ∀ (zM : MdS) (x3 : Int32) (x4 : Int64) (x6 : Int64) (x8 : Int32) (x10 : Int32) (x11 : Int32) (v0 : Int32) (H : Heap) (locs : List Loc) (ls : Array Slot), va_P G vwCl ((wMd cA qM zM)) H → va_D (adr W9) ((wMd cA qM zM)) → va_S (adr W9) s.heap H locs → lv_has ls 14 [(0, .ref (qM 0)), (3, .int x3), (4, .long x4), (6, .long x6), (8, .int x8), (10, .int x10), (11, .int x11)] → f_X7_multiply_176 zM x3 x4 x6 x8 x10 x11 v0 = some res → W p l e rm_X7_multiply s m args below meth c H locs 0 0 (MQ below (qWv G W9 ((wMd cA qM res))) args s 0 0 (adr W9)) (F0 m 176 ls [.int v0]) := by
  obtain ⟨hx, hb, hr, hml, hown, hts, hlocks, hK, hR, hRA⟩ := id C0
  intro zM x3 x4 x6 x8 x10 x11 v0 H locs ls hP hD hS hl hf
  unfold f_X7_multiply_176 at hf
  refine lv_istore (lv' := [(12, .int v0), (0, .ref (qM 0)), (3, .int x3), (4, .long x4), (6, .long x6), (8, .int x8), (10, .int x10), (11, .int x11)]) hx hb dX7_multiply_176 hl (by decide) rfl (fun ls hl => ?_)
  refine lv_iload hx hb dX7_multiply_178 (lv_at hl 5 rfl) ?_
  refine lv_iconst (v := 3) hx hb dX7_multiply_180 (by decide) ?_
  refine lv_icmp_ne (tgt := 189) hx hb dX7_multiply_181 (by decide) (fun c_1 => ?_) (fun c_1 => ?_)
  · rw [if_pos (c_1)] at hf
    refine lv_iload hx hb dX7_multiply_189 (lv_at hl 6 rfl) ?_
    exact b_X7_multiply_191 qM   C0  zM x3 x4 x6 v0 x10 H locs ls hP hD hS (lv_sub hl [1, 2, 3, 4, 0] rfl) hf
  · rw [if_neg (not_not_intro c_1)] at hf
    refine lv_iload hx hb dX7_multiply_184 (lv_at hl 7 rfl) ?_
    refine lv_goto (tgt := 191) hx hb dX7_multiply_186 (by decide) ?_
    exact b_X7_multiply_191 qM   C0  zM x3 x4 x6 v0 x11 H locs ls hP hD hS (lv_sub hl [1, 2, 3, 4, 0] rfl) hf
def f_X7_multiply_151 (zM : MdS) (x6 : Int64) (v1 : Int32) (v2 : Int32) (v3 : Int32) (v4 : Int32) (v5 : Int64) : Option (MdS) := (f_X7_addTerm zM v1 v2 v3 v4 v5 ((2 : Int64) * x6)).bind fun r_1 => some r_1
set_option maxHeartbeats 4000000 in
set_option maxRecDepth 100000 in
theorem b_X7_multiply_151 {p : Program} {l : Launch} {e : Env} {s : State} {m : MethodId} {args : Array Value} {below : List Frame} {meth : Method} {c : Code} {G : va_G} {cA : Nat → ClassId} {W9 : va_W} (qM : Nat → Nat) (C0 : Amb p s m args meth c cX7_multiply RX7 14 none G cA (adr W9) []) {res : MdS} : ∀ (zM : MdS) (x6 : Int64) (v1 : Int32) (v2 : Int32) (v3 : Int32) (v4 : Int32) (v5 : Int64) (H : Heap) (locs : List Loc) (ls : Array Slot), va_P G vwCl ((wMd cA qM zM)) H → va_D (adr W9) ((wMd cA qM zM)) → va_S (adr W9) s.heap H locs → lv_has ls 14 [(6, .long x6)] → f_X7_multiply_151 zM x6 v1 v2 v3 v4 v5 = some res → W p l e rm_X7_multiply s m args below meth c H locs 0 0 (MQ below (qWv G W9 ((wMd cA qM res))) args s 0 0 (adr W9)) (F0 m 151 ls [.long v5, .int v4, .int v3, .int v2, .int v1, .ref (qM 0)]) := by
  obtain ⟨hx, hb, hr, hml, hown, hts, hlocks, hK, hR, hRA⟩ := id C0
  intro zM x6 v1 v2 v3 v4 v5 H locs ls hP hD hS hl hf
  unfold f_X7_multiply_151 at hf
  refine lv_ldc2 (v := (2 : Int64)) hx hb hown (hts _ wi_865) dX7_multiply_151 ?_
  refine lv_lload hx hb dX7_multiply_154 (lv_at hl 0 rfl) ?_
  refine lv_lmul hx hb dX7_multiply_156 ?_
  obtain ⟨r_1, hr_1, hf⟩ := obd hf
  refine cWvV (As := [.int v1, .int v2, .int v3, .int v4, .long v5, .long ((2 : Int64) * x6)]) (rest := []) (W1 := ((wMd cA qM r_1))) ⟨hx, hb, hml, hown, hts⟩ (m_X7_addTerm l G cA qM zM v1 v2 v3 v4 v5 ((2 : Int64) * x6) r_1 hr_1) (cw_X7_addTerm hts wi_772 ⟨Nat.le_of_ble_eq_true rfl, Nat.le_of_ble_eq_true rfl⟩) hK hP hD hS [0, 1, 2, 3, 4] [5, 6, 7, 8, 9] rfl rfl rfl (by decide) rfl va_Pnil dj_nil (va_recv hK.1 hP (ci := 5) (q0 := 0) rfl rfl) rfl hl.1 rfl (Nat.le_of_ble_eq_true rfl) dX7_multiply_157 ⟨Nat.zero_le _, Nat.zero_le _⟩ (fun H locs hP hD hS => ?_)
  refine lv_goto (tgt := 235) hx hb dX7_multiply_160 (by decide) ?_
  cases hf
  exact W.vret hx hb hr (fun t ht hW => ⟨⟨(), rfl, trivial, toT ht hP⟩, hS.F ht⟩) hS.2.2 dX7_multiply_235 hlocks
def f_X7_multiply_61 (zM : MdS) (x3 : Int32) (x4 : Int64) (x6 : Int64) (v1 : Int32) (v2 : Int32) (v3 : Int32) : Option (MdS) := (f_X7_addTerm zM v1 v2 v3 x3 x4 x6).bind fun r_1 => some r_1
set_option maxHeartbeats 4000000 in
set_option maxRecDepth 100000 in
theorem b_X7_multiply_61 {p : Program} {l : Launch} {e : Env} {s : State} {m : MethodId} {args : Array Value} {below : List Frame} {meth : Method} {c : Code} {G : va_G} {cA : Nat → ClassId} {W9 : va_W} (qM : Nat → Nat) (C0 : Amb p s m args meth c cX7_multiply RX7 14 none G cA (adr W9) []) {res : MdS} : ∀ (zM : MdS) (x3 : Int32) (x4 : Int64) (x6 : Int64) (v1 : Int32) (v2 : Int32) (v3 : Int32) (H : Heap) (locs : List Loc) (ls : Array Slot), va_P G vwCl ((wMd cA qM zM)) H → va_D (adr W9) ((wMd cA qM zM)) → va_S (adr W9) s.heap H locs → lv_has ls 14 [(3, .int x3), (4, .long x4), (6, .long x6)] → f_X7_multiply_61 zM x3 x4 x6 v1 v2 v3 = some res → W p l e rm_X7_multiply s m args below meth c H locs 0 0 (MQ below (qWv G W9 ((wMd cA qM res))) args s 0 0 (adr W9)) (F0 m 61 ls [.int v3, .int v2, .int v1, .ref (qM 0)]) := by
  obtain ⟨hx, hb, hr, hml, hown, hts, hlocks, hK, hR, hRA⟩ := id C0
  intro zM x3 x4 x6 v1 v2 v3 H locs ls hP hD hS hl hf
  unfold f_X7_multiply_61 at hf
  refine lv_iload_n hx hb dX7_multiply_61 rfl (lv_at hl 0 rfl) ?_
  refine lv_lload hx hb dX7_multiply_62 (lv_at hl 1 rfl) ?_
  refine lv_lload hx hb dX7_multiply_64 (lv_at hl 2 rfl) ?_
  obtain ⟨r_1, hr_1, hf⟩ := obd hf
  refine cWvV (As := [.int v1, .int v2, .int v3, .int x3, .long x4, .long x6]) (rest := []) (W1 := ((wMd cA qM r_1))) ⟨hx, hb, hml, hown, hts⟩ (m_X7_addTerm l G cA qM zM v1 v2 v3 x3 x4 x6 r_1 hr_1) (cw_X7_addTerm hts wi_772 ⟨Nat.le_of_ble_eq_true rfl, Nat.le_of_ble_eq_true rfl⟩) hK hP hD hS [0, 1, 2, 3, 4] [5, 6, 7, 8, 9] rfl rfl rfl (by decide) rfl va_Pnil dj_nil (va_recv hK.1 hP (ci := 5) (q0 := 0) rfl rfl) rfl hl.1 rfl (Nat.le_of_ble_eq_true rfl) dX7_multiply_66 ⟨Nat.zero_le _, Nat.zero_le _⟩ (fun H locs hP hD hS => ?_)
  refine lv_goto (tgt := 235) hx hb dX7_multiply_69 (by decide) ?_
  cases hf
  exact W.vret hx hb hr (fun t ht hW => ⟨⟨(), rfl, trivial, toT ht hP⟩, hS.F ht⟩) hS.2.2 dX7_multiply_235 hlocks
def f_X7_multiply_49 (zM : MdS) (x3 : Int32) (x4 : Int64) (x6 : Int64) (x8 : Int32) (x10 : Int32) (x11 : Int32) (v1 : Int32) (v2 : Int32) : Option (MdS) := if ¬ x8 = 0 then f_X7_multiply_61  zM x3 x4 x6 v1 v2 x10 else f_X7_multiply_61  zM x3 x4 x6 v1 v2 x11
set_option maxHeartbeats 4000000 in
set_option maxRecDepth 100000 in
theorem b_X7_multiply_49 {p : Program} {l : Launch} {e : Env} {s : State} {m : MethodId} {args : Array Value} {below : List Frame} {meth : Method} {c : Code} {G : va_G} {cA : Nat → ClassId} {W9 : va_W} (qM : Nat → Nat) (C0 : Amb p s m args meth c cX7_multiply RX7 14 none G cA (adr W9) []) {res : MdS} : ∀ (zM : MdS) (x3 : Int32) (x4 : Int64) (x6 : Int64) (x8 : Int32) (x10 : Int32) (x11 : Int32) (v1 : Int32) (v2 : Int32) (H : Heap) (locs : List Loc) (ls : Array Slot), va_P G vwCl ((wMd cA qM zM)) H → va_D (adr W9) ((wMd cA qM zM)) → va_S (adr W9) s.heap H locs → lv_has ls 14 [(3, .int x3), (4, .long x4), (6, .long x6), (8, .int x8), (10, .int x10), (11, .int x11)] → f_X7_multiply_49 zM x3 x4 x6 x8 x10 x11 v1 v2 = some res → W p l e rm_X7_multiply s m args below meth c H locs 0 0 (MQ below (qWv G W9 ((wMd cA qM res))) args s 0 0 (adr W9)) (F0 m 49 ls [.int v2, .int v1, .ref (qM 0)]) := by
  obtain ⟨hx, hb, hr, hml, hown, hts, hlocks, hK, hR, hRA⟩ := id C0
  intro zM x3 x4 x6 x8 x10 x11 v1 v2 H locs ls hP hD hS hl hf
  unfold f_X7_multiply_49 at hf
  refine lv_iload hx hb dX7_multiply_49 (lv_at hl 3 rfl) ?_
  refine lv_if_ne (tgt := 59) hx hb dX7_multiply_51 (by decide) (fun c_1 => ?_) (fun c_1 => ?_)
  · rw [if_pos (c_1)] at hf
    refine lv_iload hx hb dX7_multiply_59 (lv_at hl 4 rfl) ?_
    exact b_X7_multiply_61 qM   C0  zM x3 x4 x6 v1 v2 x10 H locs ls hP hD hS (lv_sub hl [0, 1, 2] rfl) hf
  · rw [if_neg (not_not_intro c_1)] at hf
    refine lv_iload hx hb dX7_multiply_54 (lv_at hl 5 rfl) ?_
    refine lv_goto (tgt := 61) hx hb dX7_multiply_56 (by decide) ?_
    exact b_X7_multiply_61 qM   C0  zM x3 x4 x6 v1 v2 x11 H locs ls hP hD hS (lv_sub hl [0, 1, 2] rfl) hf
def f_X7_multiply_34 (zM : MdS) (x3 : Int32) (x4 : Int64) (x6 : Int64) (x8 : Int32) (x9 : Int32) (x10 : Int32) (x11 : Int32) : Option (MdS) := if ¬ x8 = 0 then f_X7_multiply_49  zM x3 x4 x6 x8 x10 x11 (8 : Int32) x8 else f_X7_multiply_49  zM x3 x4 x6 x8 x10 x11 (8 : Int32) x9
set_option maxHeartbeats 4000000 in
set_option maxRecDepth 100000 in
theorem b_X7_multiply_34 {p : Program} {l : Launch} {e : Env} {s : State} {m : MethodId} {args : Array Value} {below : List Frame} {meth : Method} {c : Code} {G : va_G} {cA : Nat → ClassId} {W9 : va_W} (qM : Nat → Nat) (C0 : Amb p s m args meth c cX7_multiply RX7 14 none G cA (adr W9) []) {res : MdS} : ∀ (zM : MdS) (x3 : Int32) (x4 : Int64) (x6 : Int64) (x8 : Int32) (x9 : Int32) (x10 : Int32) (x11 : Int32) (H : Heap) (locs : List Loc) (ls : Array Slot), va_P G vwCl ((wMd cA qM zM)) H → va_D (adr W9) ((wMd cA qM zM)) → va_S (adr W9) s.heap H locs → lv_has ls 14 [(0, .ref (qM 0)), (3, .int x3), (4, .long x4), (6, .long x6), (8, .int x8), (9, .int x9), (10, .int x10), (11, .int x11)] → f_X7_multiply_34 zM x3 x4 x6 x8 x9 x10 x11 = some res → W p l e rm_X7_multiply s m args below meth c H locs 0 0 (MQ below (qWv G W9 ((wMd cA qM res))) args s 0 0 (adr W9)) (F0 m 34 ls []) := by
  obtain ⟨hx, hb, hr, hml, hown, hts, hlocks, hK, hR, hRA⟩ := id C0
  intro zM x3 x4 x6 x8 x9 x10 x11 H locs ls hP hD hS hl hf
  unfold f_X7_multiply_34 at hf
  refine lv_aload_n hx hb dX7_multiply_34 rfl (lv_at hl 0 rfl) ?_
  refine lv_bipush (v := (8 : Int32)) hx hb dX7_multiply_35 (by decide) ?_
  refine lv_iload hx hb dX7_multiply_37 (lv_at hl 4 rfl) ?_
  refine lv_if_ne (tgt := 47) hx hb dX7_multiply_39 (by decide) (fun c_1 => ?_) (fun c_1 => ?_)
  · rw [if_pos (c_1)] at hf
    refine lv_iload hx hb dX7_multiply_47 (lv_at hl 4 rfl) ?_
    exact b_X7_multiply_49 qM   C0  zM x3 x4 x6 x8 x10 x11 (8 : Int32) x8 H locs ls hP hD hS (lv_sub hl [1, 2, 3, 4, 6, 7] rfl) hf
  · rw [if_neg (not_not_intro c_1)] at hf
    refine lv_iload hx hb dX7_multiply_42 (lv_at hl 5 rfl) ?_
    refine lv_goto (tgt := 49) hx hb dX7_multiply_44 (by decide) ?_
    exact b_X7_multiply_49 qM   C0  zM x3 x4 x6 x8 x10 x11 (8 : Int32) x9 H locs ls hP hD hS (lv_sub hl [1, 2, 3, 4, 6, 7] rfl) hf
def f_X7_multiply (zM : MdS) (a1 : Int32) (a2 : Int32) (a3 : Int32) (a4 : Int64) (a6 : Int64) : Option (MdS) := (f_X7_kindOf a1).bind fun r_1 => (f_X7_kindOf a2).bind fun r_2 => (f_X7_countOf a1).bind fun r_3 => (f_X7_countOf a2).bind fun r_4 => if r_1 = 0 then f_X7_multiply_34  zM a3 a4 a6 r_1 r_2 r_3 r_4 else if ¬ r_2 = 0 then if (3 : Int32) ≤ r_1 then if ¬ r_1 = r_2 then if ¬ r_1 = (3 : Int32) then f_X7_multiply_176  zM a3 a4 a6 r_1 r_3 r_4 r_4 else f_X7_multiply_176  zM a3 a4 a6 r_1 r_3 r_4 r_3 else (f_X7_addTerm zM (8 : Int32) (4 : Int32) (r_3 - r_4) a3 a4 ((2 : Int64) * a6)).bind fun r_10 => if ¬ r_1 = (3 : Int32) then f_X7_multiply_151  r_10 a6 (8 : Int32) (4 : Int32) (r_3 + r_4) a3 a4 else f_X7_multiply_151  r_10 a6 (8 : Int32) (4 : Int32) (r_3 + r_4) a3 (-a4) else (f_X7_addTerm zM (8 : Int32) r_1 (r_3 + r_4) a3 a4 a6).bind fun r_12 => some r_12 else f_X7_multiply_34  zM a3 a4 a6 r_1 r_2 r_3 r_4
set_option maxHeartbeats 4000000 in
set_option maxRecDepth 100000 in
theorem b_X7_multiply_0 {p : Program} {l : Launch} {e : Env} {s : State} {m : MethodId} {args : Array Value} {below : List Frame} {meth : Method} {c : Code} {G : va_G} {cA : Nat → ClassId} {W9 : va_W} (qM : Nat → Nat) (C0 : Amb p s m args meth c cX7_multiply RX7 14 none G cA (adr W9) []) {res : MdS} : ∀ (zM : MdS) (a1 : Int32) (a2 : Int32) (a3 : Int32) (a4 : Int64) (a6 : Int64) (H : Heap) (locs : List Loc) (ls : Array Slot), va_P G vwCl ((wMd cA qM zM)) H → va_D (adr W9) ((wMd cA qM zM)) → va_S (adr W9) s.heap H locs → lv_has ls 14 [(0, .ref (qM 0)), (1, .int a1), (2, .int a2), (3, .int a3), (4, .long a4), (6, .long a6)] → f_X7_multiply zM a1 a2 a3 a4 a6 = some res → W p l e rm_X7_multiply s m args below meth c H locs 0 0 (MQ below (qWv G W9 ((wMd cA qM res))) args s 0 0 (adr W9)) (F0 m 0 ls []) := by
  obtain ⟨hx, hb, hr, hml, hown, hts, hlocks, hK, hR, hRA⟩ := id C0
  intro zM a1 a2 a3 a4 a6 H locs ls hP hD hS hl hf
  unfold f_X7_multiply at hf
  refine lv_iload_n hx hb dX7_multiply_0 rfl (lv_at hl 1 rfl) ?_
  obtain ⟨r_1, hr_1, hf⟩ := obd hf
  refine cRiS (As := [.int a1]) (rest := []) ⟨hx, hb, hml, hown, hts⟩ (m_X7_kindOf l G cA a1 r_1 hr_1) (cw_X7_kindOf hts wi_833 ⟨Nat.le_of_ble_eq_true rfl, Nat.le_of_ble_eq_true rfl⟩) hK va_Pnil rfl hl.1 rfl (Nat.le_of_ble_eq_true rfl) dX7_multiply_1 ⟨Nat.zero_le _, Nat.zero_le _⟩ ?_
  refine lv_istore (lv' := [(8, .int r_1), (0, .ref (qM 0)), (1, .int a1), (2, .int a2), (3, .int a3), (4, .long a4), (6, .long a6)]) hx hb dX7_multiply_4 hl (by decide) rfl (fun ls hl => ?_)
  refine lv_iload_n hx hb dX7_multiply_6 rfl (lv_at hl 3 rfl) ?_
  obtain ⟨r_2, hr_2, hf⟩ := obd hf
  refine cRiS (As := [.int a2]) (rest := []) ⟨hx, hb, hml, hown, hts⟩ (m_X7_kindOf l G cA a2 r_2 hr_2) (cw_X7_kindOf hts wi_833 ⟨Nat.le_of_ble_eq_true rfl, Nat.le_of_ble_eq_true rfl⟩) hK va_Pnil rfl hl.1 rfl (Nat.le_of_ble_eq_true rfl) dX7_multiply_7 ⟨Nat.zero_le _, Nat.zero_le _⟩ ?_
  refine lv_istore (lv' := [(9, .int r_2), (8, .int r_1), (0, .ref (qM 0)), (1, .int a1), (2, .int a2), (3, .int a3), (4, .long a4), (6, .long a6)]) hx hb dX7_multiply_10 hl (by decide) rfl (fun ls hl => ?_)
  refine lv_iload_n hx hb dX7_multiply_12 rfl (lv_at hl 3 rfl) ?_
  obtain ⟨r_3, hr_3, hf⟩ := obd hf
  refine cRiS (As := [.int a1]) (rest := []) ⟨hx, hb, hml, hown, hts⟩ (m_X7_countOf l G cA a1 r_3 hr_3) (cw_X7_countOf hts wi_836 ⟨Nat.le_of_ble_eq_true rfl, Nat.le_of_ble_eq_true rfl⟩) hK va_Pnil rfl hl.1 rfl (Nat.le_of_ble_eq_true rfl) dX7_multiply_13 ⟨Nat.zero_le _, Nat.zero_le _⟩ ?_
  refine lv_istore (lv' := [(10, .int r_3), (9, .int r_2), (8, .int r_1), (0, .ref (qM 0)), (1, .int a1), (2, .int a2), (3, .int a3), (4, .long a4), (6, .long a6)]) hx hb dX7_multiply_16 hl (by decide) rfl (fun ls hl => ?_)
  refine lv_iload_n hx hb dX7_multiply_18 rfl (lv_at hl 5 rfl) ?_
  obtain ⟨r_4, hr_4, hf⟩ := obd hf
  refine cRiS (As := [.int a2]) (rest := []) ⟨hx, hb, hml, hown, hts⟩ (m_X7_countOf l G cA a2 r_4 hr_4) (cw_X7_countOf hts wi_836 ⟨Nat.le_of_ble_eq_true rfl, Nat.le_of_ble_eq_true rfl⟩) hK va_Pnil rfl hl.1 rfl (Nat.le_of_ble_eq_true rfl) dX7_multiply_19 ⟨Nat.zero_le _, Nat.zero_le _⟩ ?_
  refine lv_istore (lv' := [(11, .int r_4), (10, .int r_3), (9, .int r_2), (8, .int r_1), (0, .ref (qM 0)), (1, .int a1), (2, .int a2), (3, .int a3), (4, .long a4), (6, .long a6)]) hx hb dX7_multiply_22 hl (by decide) rfl (fun ls hl => ?_)
  refine lv_iload hx hb dX7_multiply_24 (lv_at hl 3 rfl) ?_
  refine lv_if_eq (tgt := 34) hx hb dX7_multiply_26 (by decide) (fun c_5 => ?_) (fun c_5 => ?_)
  · rw [if_pos (c_5)] at hf
    exact b_X7_multiply_34 qM   C0  zM a3 a4 a6 r_1 r_2 r_3 r_4 H locs ls hP hD hS (lv_sub hl [4, 7, 8, 9, 3, 2, 1, 0] rfl) hf
  · rw [if_neg (c_5)] at hf
    refine lv_iload hx hb dX7_multiply_29 (lv_at hl 2 rfl) ?_
    refine lv_if_ne (tgt := 72) hx hb dX7_multiply_31 (by decide) (fun c_6 => ?_) (fun c_6 => ?_)
    · rw [if_pos (c_6)] at hf
      refine lv_iload hx hb dX7_multiply_72 (lv_at hl 3 rfl) ?_
      refine lv_iconst (v := 3) hx hb dX7_multiply_74 (by decide) ?_
      refine lv_icmp_ge (tgt := 99) hx hb dX7_multiply_75 (by decide) (fun c_7 => ?_) (fun c_7 => ?_)
      · rw [if_pos (c_7)] at hf
        refine lv_iload hx hb dX7_multiply_99 (lv_at hl 3 rfl) ?_
        refine lv_iload hx hb dX7_multiply_101 (lv_at hl 2 rfl) ?_
        refine lv_icmp_ne (tgt := 163) hx hb dX7_multiply_103 (by decide) (fun c_8 => ?_) (fun c_8 => ?_)
        · rw [if_pos (c_8)] at hf
          refine lv_iload hx hb dX7_multiply_163 (lv_at hl 3 rfl) ?_
          refine lv_iconst (v := 3) hx hb dX7_multiply_165 (by decide) ?_
          refine lv_icmp_ne (tgt := 174) hx hb dX7_multiply_166 (by decide) (fun c_9 => ?_) (fun c_9 => ?_)
          · rw [if_pos (c_9)] at hf
            refine lv_iload hx hb dX7_multiply_174 (lv_at hl 0 rfl) ?_
            exact b_X7_multiply_176 qM   C0  zM a3 a4 a6 r_1 r_3 r_4 r_4 H locs ls hP hD hS (lv_sub hl [4, 7, 8, 9, 3, 1, 0] rfl) hf
          · rw [if_neg (not_not_intro c_9)] at hf
            refine lv_iload hx hb dX7_multiply_169 (lv_at hl 1 rfl) ?_
            refine lv_goto (tgt := 176) hx hb dX7_multiply_171 (by decide) ?_
            exact b_X7_multiply_176 qM   C0  zM a3 a4 a6 r_1 r_3 r_4 r_3 H locs ls hP hD hS (lv_sub hl [4, 7, 8, 9, 3, 1, 0] rfl) hf
        · rw [if_neg (not_not_intro c_8)] at hf
          refine lv_aload_n hx hb dX7_multiply_106 rfl (lv_at hl 4 rfl) ?_
          refine lv_bipush (v := (8 : Int32)) hx hb dX7_multiply_107 (by decide) ?_
          refine lv_iconst (v := 4) hx hb dX7_multiply_109 (by decide) ?_
          refine lv_iload hx hb dX7_multiply_110 (lv_at hl 1 rfl) ?_
          refine lv_iload hx hb dX7_multiply_112 (lv_at hl 0 rfl) ?_
          refine lv_isub hx hb dX7_multiply_114 ?_
          refine lv_iload_n hx hb dX7_multiply_115 rfl (lv_at hl 7 rfl) ?_
          refine lv_lload hx hb dX7_multiply_116 (lv_at hl 8 rfl) ?_
          refine lv_ldc2 (v := (2 : Int64)) hx hb hown (hts _ wi_865) dX7_multiply_118 ?_
          refine lv_lload hx hb dX7_multiply_121 (lv_at hl 9 rfl) ?_
          refine lv_lmul hx hb dX7_multiply_123 ?_
          obtain ⟨r_10, hr_10, hf⟩ := obd hf
          refine cWvV (As := [.int (8 : Int32), .int (4 : Int32), .int (r_3 - r_4), .int a3, .long a4, .long ((2 : Int64) * a6)]) (rest := []) (W1 := ((wMd cA qM r_10))) ⟨hx, hb, hml, hown, hts⟩ (m_X7_addTerm l G cA qM zM (8 : Int32) (4 : Int32) (r_3 - r_4) a3 a4 ((2 : Int64) * a6) r_10 hr_10) (cw_X7_addTerm hts wi_772 ⟨Nat.le_of_ble_eq_true rfl, Nat.le_of_ble_eq_true rfl⟩) hK hP hD hS [0, 1, 2, 3, 4] [5, 6, 7, 8, 9] rfl rfl rfl (by decide) rfl va_Pnil dj_nil (va_recv hK.1 hP (ci := 5) (q0 := 0) rfl rfl) rfl hl.1 rfl (Nat.le_of_ble_eq_true rfl) dX7_multiply_124 ⟨Nat.zero_le _, Nat.zero_le _⟩ (fun H locs hP hD hS => ?_)
          refine lv_aload_n hx hb dX7_multiply_127 rfl (lv_at hl 4 rfl) ?_
          refine lv_bipush (v := (8 : Int32)) hx hb dX7_multiply_128 (by decide) ?_
          refine lv_iconst (v := 4) hx hb dX7_multiply_130 (by decide) ?_
          refine lv_iload hx hb dX7_multiply_131 (lv_at hl 1 rfl) ?_
          refine lv_iload hx hb dX7_multiply_133 (lv_at hl 0 rfl) ?_
          refine lv_iadd hx hb dX7_multiply_135 ?_
          refine lv_iload_n hx hb dX7_multiply_136 rfl (lv_at hl 7 rfl) ?_
          refine lv_iload hx hb dX7_multiply_137 (lv_at hl 3 rfl) ?_
          refine lv_iconst (v := 3) hx hb dX7_multiply_139 (by decide) ?_
          refine lv_icmp_ne (tgt := 149) hx hb dX7_multiply_140 (by decide) (fun c_11 => ?_) (fun c_11 => ?_)
          · rw [if_pos (c_11)] at hf
            refine lv_lload hx hb dX7_multiply_149 (lv_at hl 8 rfl) ?_
            exact b_X7_multiply_151 qM   C0  r_10 a6 (8 : Int32) (4 : Int32) (r_3 + r_4) a3 a4 H locs ls hP hD hS (lv_sub hl [9] rfl) hf
          · rw [if_neg (not_not_intro c_11)] at hf
            refine lv_lload hx hb dX7_multiply_143 (lv_at hl 8 rfl) ?_
            refine lv_lneg hx hb dX7_multiply_145 ?_
            refine lv_goto (tgt := 151) hx hb dX7_multiply_146 (by decide) ?_
            exact b_X7_multiply_151 qM   C0  r_10 a6 (8 : Int32) (4 : Int32) (r_3 + r_4) a3 (-a4) H locs ls hP hD hS (lv_sub hl [9] rfl) hf
      · rw [if_neg (c_7)] at hf
        refine lv_aload_n hx hb dX7_multiply_78 rfl (lv_at hl 4 rfl) ?_
        refine lv_bipush (v := (8 : Int32)) hx hb dX7_multiply_79 (by decide) ?_
        refine lv_iload hx hb dX7_multiply_81 (lv_at hl 3 rfl) ?_
        refine lv_iload hx hb dX7_multiply_83 (lv_at hl 1 rfl) ?_
        refine lv_iload hx hb dX7_multiply_85 (lv_at hl 0 rfl) ?_
        refine lv_iadd hx hb dX7_multiply_87 ?_
        refine lv_iload_n hx hb dX7_multiply_88 rfl (lv_at hl 7 rfl) ?_
        refine lv_lload hx hb dX7_multiply_89 (lv_at hl 8 rfl) ?_
        refine lv_lload hx hb dX7_multiply_91 (lv_at hl 9 rfl) ?_
        obtain ⟨r_12, hr_12, hf⟩ := obd hf
        refine cWvV (As := [.int (8 : Int32), .int r_1, .int (r_3 + r_4), .int a3, .long a4, .long a6]) (rest := []) (W1 := ((wMd cA qM r_12))) ⟨hx, hb, hml, hown, hts⟩ (m_X7_addTerm l G cA qM zM (8 : Int32) r_1 (r_3 + r_4) a3 a4 a6 r_12 hr_12) (cw_X7_addTerm hts wi_772 ⟨Nat.le_of_ble_eq_true rfl, Nat.le_of_ble_eq_true rfl⟩) hK hP hD hS [0, 1, 2, 3, 4] [5, 6, 7, 8, 9] rfl rfl rfl (by decide) rfl va_Pnil dj_nil (va_recv hK.1 hP (ci := 5) (q0 := 0) rfl rfl) rfl hl.1 rfl (Nat.le_of_ble_eq_true rfl) dX7_multiply_93 ⟨Nat.zero_le _, Nat.zero_le _⟩ (fun H locs hP hD hS => ?_)
        refine lv_goto (tgt := 235) hx hb dX7_multiply_96 (by decide) ?_
        cases hf
        exact W.vret hx hb hr (fun t ht hW => ⟨⟨(), rfl, trivial, toT ht hP⟩, hS.F ht⟩) hS.2.2 dX7_multiply_235 hlocks
    · rw [if_neg (not_not_intro c_6)] at hf
      exact b_X7_multiply_34 qM   C0  zM a3 a4 a6 r_1 r_2 r_3 r_4 H locs ls hP hD hS (lv_sub hl [4, 7, 8, 9, 3, 2, 1, 0] rfl) hf

set_option maxRecDepth 100000 in
theorem m_X7_multiply (l : Launch) (G : va_G) (cA : Nat → ClassId) (qM : Nat → Nat) (zM : MdS) (a1 : Int32) (a2 : Int32) (a3 : Int32) (a4 : Int64) (a6 : Int64) (res : MdS) (hf : f_X7_multiply zM a1 a2 a3 a4 a6 = some res) : MWv l yX7_multiply (.code yX7_multiply cX7_multiply 14 none :: wd) rm_X7_multiply G cA [.ref (qM 0), .int a1, .int a2, .int a3, .long a4, .long a6] ((wMd cA qM zM)) [] ((wMd cA qM res)) := by
  refine Met.ofW (cc := cX7_multiply) (maxL := 14) (ret := none) (by decide) rfl ?_
  intro p e s m args below meth c s₁ B hml hv
  obtain ⟨rfl, hK, hP, hD0, hR, hRA⟩ := hv
  have C0 : Amb p s m ([.ref (qM 0), .int a1, .int a2, .int a3, .long a4, .long a6] : List Value).toArray meth c cX7_multiply RX7 14 none G cA (adr ((wMd cA qM zM))) [] := ⟨B.exec, B.bytes, B.returns, hml, findClass_of_methodNamed B.named, fun w h => atoms_spec (ws := (.code yX7_multiply cX7_multiply 14 none :: wd)) B.pre w (List.mem_cons_of_mem _ h), B.notSynchronized, hK, hR, hRA⟩
  have hl := lv_entry ([.ref (qM 0), .int a1, .int a2, .int a3, .long a4, .long a6]) (n := 14) (Nat.le_of_ble_eq_true rfl)
  rw [lg_entry_eq]
  generalize (lg_sl ([.ref (qM 0), .int a1, .int a2, .int a3, .long a4, .long a6]) ++ List.replicate (14 - (lg_sl ([.ref (qM 0), .int a1, .int a2, .int a3, .long a4, .long a6])).length) Slot.unset).toArray = ls at hl ⊢
  have hl : lv_has ls 14 [(0, .ref (qM 0)), (1, .int a1), (2, .int a2), (3, .int a3), (4, .long a4), (6, .long a6)] := hl
  exact b_X7_multiply_0 (W9 := ((wMd cA qM zM))) qM   C0 zM a1 a2 a3 a4 a6 s.heap [] ls hP (adr.self hD0) va_S.rf hl hf
theorem cw_X7_multiply {R : Room} {s : State} {args : Array Value} {own : String} {index : Nat} (ht : ∀ w ∈ wd, w.before args s = true) (hlink : Cond.methodLink own index yX7_multiply ∈ wd) (hR : rm_X7_multiply.frames + 1 ≤ R.frames ∧ 8 + (14 + 11) + rm_X7_multiply.locals ≤ R.locals) : CallW R s args own RX7 index yX7_multiply cX7_multiply 14 none (.code yX7_multiply cX7_multiply 14 none :: wd) rm_X7_multiply 0 0 5 := cwV9 5 ht wi_864 wi_863 wi_49 wi_60 hlink (by decide +kernel) rfl rfl hR
def rm_X7_times : Room := { frames := 3, cells := 0, slots := 0, locals := 101 }
def f_X7_times_295 (kb_103 : MdS → Int32 → Int32 → Int32 → Int32 → Int32 → Option (Int32 × MdS)) (zM : MdS) (x1 : Int32) (x2 : Int32) (x3 : Int32) (x5 : Int32) (x6 : Int32) : Option (Int32 × MdS) := kb_103 zM x1 x2 x3 x5 (x6 + 1)
set_option maxHeartbeats 4000000 in
set_option maxRecDepth 100000 in
theorem b_X7_times_295 {p : Program} {l : Launch} {e : Env} {s : State} {m : MethodId} {args : Array Value} {below : List Frame} {meth : Method} {c : Code} {G : va_G} {cA : Nat → ClassId} {W9 : va_W} (qM : Nat → Nat) (C0 : Amb p s m args meth c cX7_times RX7 10 (some .int) G cA (adr W9) []) {res : Int32 × MdS} (kb_103 : MdS → Int32 → Int32 → Int32 → Int32 → Int32 → Option (Int32 × MdS)) (hkb_103 : ∀ (zM : MdS) (x1 : Int32) (x2 : Int32) (x3 : Int32) (x5 : Int32) (x6 : Int32) (H : Heap) (locs : List Loc) (ls : Array Slot), va_P G vwCl ((wMd cA qM zM)) H → va_D (adr W9) ((wMd cA qM zM)) → va_S (adr W9) s.heap H locs → lv_has ls 10 [(0, .ref (qM 0)), (1, .int x1), (2, .int x2), (3, .int x3), (5, .int x5), (6, .int x6)] → kb_103 zM x1 x2 x3 x5 x6 = some res → W p l e rm_X7_times s m args below meth c H locs 0 0 (MQ below (qWi G W9 ((wMd cA qM res.2)) res.1) args s 0 0 (adr W9)) (F0 m 103 ls [])) : ∀ (zM : MdS) (x1 : Int32) (x2 : Int32) (x3 : Int32) (x5 : Int32) (x6 : Int32) (H : Heap) (locs : List Loc) (ls : Array Slot), va_P G vwCl ((wMd cA qM zM)) H → va_D (adr W9) ((wMd cA qM zM)) → va_S (adr W9) s.heap H locs → lv_has ls 10 [(0, .ref (qM 0)), (1, .int x1), (2, .int x2), (3, .int x3), (5, .int x5), (6, .int x6)] → f_X7_times_295 kb_103 zM x1 x2 x3 x5 x6 = some res → W p l e rm_X7_times s m args below meth c H locs 0 0 (MQ below (qWi G W9 ((wMd cA qM res.2)) res.1) args s 0 0 (adr W9)) (F0 m 295 ls []) := by
  obtain ⟨hx, hb, hr, hml, hown, hts, hlocks, hK, hR, hRA⟩ := id C0
  intro zM x1 x2 x3 x5 x6 H locs ls hP hD hS hl hf
  unfold f_X7_times_295 at hf
  refine lv_iinc (v := (x6 + 1)) (lv' := [(6, .int (x6 + 1)), (0, .ref (qM 0)), (1, .int x1), (2, .int x2), (3, .int x3), (5, .int x5)]) hx hb dX7_times_295 hl (k := 5) rfl rfl (by decide) rfl (fun ls hl => ?_)
  refine lv_goto (tgt := 103) hx hb dX7_times_298 (by decide) ?_
  exact hkb_103 zM x1 x2 x3 x5 (x6 + 1) H locs ls hP hD hS (lv_sub hl [1, 2, 3, 4, 5, 0] rfl) hf
def f_X7_times_289 (kb_103 : MdS → Int32 → Int32 → Int32 → Int32 → Int32 → Option (Int32 × MdS)) (kb_114 : MdS → Int32 → Int32 → Int32 → Int32 → Int32 → Int32 → Option (Int32 × MdS)) (zM : MdS) (x1 : Int32) (x2 : Int32) (x3 : Int32) (x5 : Int32) (x6 : Int32) (x7 : Int32) : Option (Int32 × MdS) := kb_114 zM x1 x2 x3 x5 x6 (x7 + 1)
set_option maxHeartbeats 4000000 in
set_option maxRecDepth 100000 in
theorem b_X7_times_289 {p : Program} {l : Launch} {e : Env} {s : State} {m : MethodId} {args : Array Value} {below : List Frame} {meth : Method} {c : Code} {G : va_G} {cA : Nat → ClassId} {W9 : va_W} (qM : Nat → Nat) (C0 : Amb p s m args meth c cX7_times RX7 10 (some .int) G cA (adr W9) []) {res : Int32 × MdS} (kb_103 : MdS → Int32 → Int32 → Int32 → Int32 → Int32 → Option (Int32 × MdS)) (hkb_103 : ∀ (zM : MdS) (x1 : Int32) (x2 : Int32) (x3 : Int32) (x5 : Int32) (x6 : Int32) (H : Heap) (locs : List Loc) (ls : Array Slot), va_P G vwCl ((wMd cA qM zM)) H → va_D (adr W9) ((wMd cA qM zM)) → va_S (adr W9) s.heap H locs → lv_has ls 10 [(0, .ref (qM 0)), (1, .int x1), (2, .int x2), (3, .int x3), (5, .int x5), (6, .int x6)] → kb_103 zM x1 x2 x3 x5 x6 = some res → W p l e rm_X7_times s m args below meth c H locs 0 0 (MQ below (qWi G W9 ((wMd cA qM res.2)) res.1) args s 0 0 (adr W9)) (F0 m 103 ls [])) (kb_114 : MdS → Int32 → Int32 → Int32 → Int32 → Int32 → Int32 → Option (Int32 × MdS)) (hkb_114 : ∀ (zM : MdS) (x1 : Int32) (x2 : Int32) (x3 : Int32) (x5 : Int32) (x6 : Int32) (x7 : Int32) (H : Heap) (locs : List Loc) (ls : Array Slot), va_P G vwCl ((wMd cA qM zM)) H → va_D (adr W9) ((wMd cA qM zM)) → va_S (adr W9) s.heap H locs → lv_has ls 10 [(0, .ref (qM 0)), (1, .int x1), (2, .int x2), (3, .int x3), (5, .int x5), (6, .int x6), (7, .int x7)] → kb_114 zM x1 x2 x3 x5 x6 x7 = some res → W p l e rm_X7_times s m args below meth c H locs 0 0 (MQ below (qWi G W9 ((wMd cA qM res.2)) res.1) args s 0 0 (adr W9)) (F0 m 114 ls [])) : ∀ (zM : MdS) (x1 : Int32) (x2 : Int32) (x3 : Int32) (x5 : Int32) (x6 : Int32) (x7 : Int32) (H : Heap) (locs : List Loc) (ls : Array Slot), va_P G vwCl ((wMd cA qM zM)) H → va_D (adr W9) ((wMd cA qM zM)) → va_S (adr W9) s.heap H locs → lv_has ls 10 [(0, .ref (qM 0)), (1, .int x1), (2, .int x2), (3, .int x3), (5, .int x5), (6, .int x6), (7, .int x7)] → f_X7_times_289 kb_103 kb_114 zM x1 x2 x3 x5 x6 x7 = some res → W p l e rm_X7_times s m args below meth c H locs 0 0 (MQ below (qWi G W9 ((wMd cA qM res.2)) res.1) args s 0 0 (adr W9)) (F0 m 289 ls []) := by
  obtain ⟨hx, hb, hr, hml, hown, hts, hlocks, hK, hR, hRA⟩ := id C0
  intro zM x1 x2 x3 x5 x6 x7 H locs ls hP hD hS hl hf
  unfold f_X7_times_289 at hf
  refine lv_iinc (v := (x7 + 1)) (lv' := [(7, .int (x7 + 1)), (0, .ref (qM 0)), (1, .int x1), (2, .int x2), (3, .int x3), (5, .int x5), (6, .int x6)]) hx hb dX7_times_289 hl (k := 6) rfl rfl (by decide) rfl (fun ls hl => ?_)
  refine lv_goto (tgt := 114) hx hb dX7_times_292 (by decide) ?_
  exact hkb_114 zM x1 x2 x3 x5 x6 (x7 + 1) H locs ls hP hD hS (lv_sub hl [1, 2, 3, 4, 5, 6, 0] rfl) hf
def f_X7_times_207 (kb_103 : MdS → Int32 → Int32 → Int32 → Int32 → Int32 → Option (Int32 × MdS)) (kb_114 : MdS → Int32 → Int32 → Int32 → Int32 → Int32 → Int32 → Option (Int32 × MdS)) (zM : MdS) (x1 : Int32) (x2 : Int32) (x3 : Int32) (x6 : Int32) (x7 : Int32) : Option (Int32 × MdS) := f_X7_times_289 kb_103 kb_114 zM x1 x2 x3 (1 : Int32) x6 x7
set_option maxHeartbeats 4000000 in
set_option maxRecDepth 100000 in
theorem b_X7_times_207 {p : Program} {l : Launch} {e : Env} {s : State} {m : MethodId} {args : Array Value} {below : List Frame} {meth : Method} {c : Code} {G : va_G} {cA : Nat → ClassId} {W9 : va_W} (qM : Nat → Nat) (C0 : Amb p s m args meth c cX7_times RX7 10 (some .int) G cA (adr W9) []) {res : Int32 × MdS} (kb_103 : MdS → Int32 → Int32 → Int32 → Int32 → Int32 → Option (Int32 × MdS)) (hkb_103 : ∀ (zM : MdS) (x1 : Int32) (x2 : Int32) (x3 : Int32) (x5 : Int32) (x6 : Int32) (H : Heap) (locs : List Loc) (ls : Array Slot), va_P G vwCl ((wMd cA qM zM)) H → va_D (adr W9) ((wMd cA qM zM)) → va_S (adr W9) s.heap H locs → lv_has ls 10 [(0, .ref (qM 0)), (1, .int x1), (2, .int x2), (3, .int x3), (5, .int x5), (6, .int x6)] → kb_103 zM x1 x2 x3 x5 x6 = some res → W p l e rm_X7_times s m args below meth c H locs 0 0 (MQ below (qWi G W9 ((wMd cA qM res.2)) res.1) args s 0 0 (adr W9)) (F0 m 103 ls [])) (kb_114 : MdS → Int32 → Int32 → Int32 → Int32 → Int32 → Int32 → Option (Int32 × MdS)) (hkb_114 : ∀ (zM : MdS) (x1 : Int32) (x2 : Int32) (x3 : Int32) (x5 : Int32) (x6 : Int32) (x7 : Int32) (H : Heap) (locs : List Loc) (ls : Array Slot), va_P G vwCl ((wMd cA qM zM)) H → va_D (adr W9) ((wMd cA qM zM)) → va_S (adr W9) s.heap H locs → lv_has ls 10 [(0, .ref (qM 0)), (1, .int x1), (2, .int x2), (3, .int x3), (5, .int x5), (6, .int x6), (7, .int x7)] → kb_114 zM x1 x2 x3 x5 x6 x7 = some res → W p l e rm_X7_times s m args below meth c H locs 0 0 (MQ below (qWi G W9 ((wMd cA qM res.2)) res.1) args s 0 0 (adr W9)) (F0 m 114 ls [])) : ∀ (zM : MdS) (x1 : Int32) (x2 : Int32) (x3 : Int32) (x6 : Int32) (x7 : Int32) (H : Heap) (locs : List Loc) (ls : Array Slot), va_P G vwCl ((wMd cA qM zM)) H → va_D (adr W9) ((wMd cA qM zM)) → va_S (adr W9) s.heap H locs → lv_has ls 10 [(0, .ref (qM 0)), (1, .int x1), (2, .int x2), (3, .int x3), (6, .int x6), (7, .int x7)] → f_X7_times_207 kb_103 kb_114 zM x1 x2 x3 x6 x7 = some res → W p l e rm_X7_times s m args below meth c H locs 0 0 (MQ below (qWi G W9 ((wMd cA qM res.2)) res.1) args s 0 0 (adr W9)) (F0 m 207 ls []) := by
  obtain ⟨hx, hb, hr, hml, hown, hts, hlocks, hK, hR, hRA⟩ := id C0
  intro zM x1 x2 x3 x6 x7 H locs ls hP hD hS hl hf
  unfold f_X7_times_207 at hf
  refine lv_iconst (v := 1) hx hb dX7_times_207 (by decide) ?_
  refine lv_istore (lv' := [(5, .int (1 : Int32)), (0, .ref (qM 0)), (1, .int x1), (2, .int x2), (3, .int x3), (6, .int x6), (7, .int x7)]) hx hb dX7_times_208 hl (by decide) rfl (fun ls hl => ?_)
  refine lv_goto (tgt := 289) hx hb dX7_times_210 (by decide) ?_
  exact b_X7_times_289 qM   C0 kb_103 hkb_103 kb_114 hkb_114 zM x1 x2 x3 (1 : Int32) x6 x7 H locs ls hP hD hS (lv_sub hl [1, 2, 3, 4, 0, 5, 6] rfl) hf
def f_X7_times_114 (kb_103 : MdS → Int32 → Int32 → Int32 → Int32 → Int32 → Option (Int32 × MdS)) : Nat → MdS → Int32 → Int32 → Int32 → Int32 → Int32 → Int32 → Option (Int32 × MdS)
  | 0, _, _, _, _, _, _, _ => none
  | fu + 1, zM, x1, x2, x3, x5, x6, x7 => if (1150 : Int32) ≤ x7 then f_X7_times_295 kb_103 zM x1 x2 x3 x5 x6 else if inb (((1150 : Int32) * x2) + x6) nUD = true then if (gM_up zM (((1150 : Int32) * x2) + x6).toNatClampNeg) = (0 : Int64) then f_X7_times_295 kb_103 zM x1 x2 x3 x5 x6 else if inb (((1150 : Int32) * x3) + x7) nUD = true then if ¬ (gM_up zM (((1150 : Int32) * x3) + x7).toNatClampNeg) = (0 : Int64) then (some ((x6 / (25 : Int32)))).bind fun y_6 => (some ((x7 / (25 : Int32)))).bind fun y_7 => (f_X7_kindOf y_6).bind fun r_8 => (f_X7_kindOf y_7).bind fun r_9 => (f_X7_clash r_8 r_9).bind fun r_10 => if ¬ r_10 = 0 then f_X7_times_207 kb_103 (fun zM_ x1_ x2_ x3_ x5_ x6_ x7_ => f_X7_times_114 kb_103 fu zM_ x1_ x2_ x3_ x5_ x6_ x7_) zM x1 x2 x3 x6 x7 else (f_X7_kindOf y_7).bind fun r_12 => (f_X7_kindOf y_6).bind fun r_13 => (f_X7_clash r_12 r_13).bind fun r_14 => if r_14 = 0 then if inb (((1150 : Int32) * x2) + x6) nUD = true then if inb (((1150 : Int32) * x3) + x7) nUD = true then if inb (((1150 : Int32) * x2) + x6) nUD = true then if inb (((1150 : Int32) * x3) + x7) nUD = true then (f_X7_multiply zM y_6 y_7 (((x6 - x6 / (25 : Int32) * (25 : Int32)) + (x7 - x7 / (25 : Int32) * (25 : Int32))) - (24 : Int32)) ((gM_up zM (((1150 : Int32) * x2) + x6).toNatClampNeg) * (gM_up zM (((1150 : Int32) * x3) + x7).toNatClampNeg)) ((gM_down zM (((1150 : Int32) * x2) + x6).toNatClampNeg) * (gM_down zM (((1150 : Int32) * x3) + x7).toNatClampNeg))).bind fun r_20 => f_X7_times_289 kb_103 (fun zM_ x1_ x2_ x3_ x5_ x6_ x7_ => f_X7_times_114 kb_103 fu zM_ x1_ x2_ x3_ x5_ x6_ x7_) r_20 x1 x2 x3 x5 x6 x7 else none else none else none else none else f_X7_times_207 kb_103 (fun zM_ x1_ x2_ x3_ x5_ x6_ x7_ => f_X7_times_114 kb_103 fu zM_ x1_ x2_ x3_ x5_ x6_ x7_) zM x1 x2 x3 x6 x7 else f_X7_times_289 kb_103 (fun zM_ x1_ x2_ x3_ x5_ x6_ x7_ => f_X7_times_114 kb_103 fu zM_ x1_ x2_ x3_ x5_ x6_ x7_) zM x1 x2 x3 x5 x6 x7 else none else none
set_option maxHeartbeats 4000000 in
set_option maxRecDepth 100000 in
theorem b_X7_times_114 {p : Program} {l : Launch} {e : Env} {s : State} {m : MethodId} {args : Array Value} {below : List Frame} {meth : Method} {c : Code} {G : va_G} {cA : Nat → ClassId} {W9 : va_W} (qM : Nat → Nat) (C0 : Amb p s m args meth c cX7_times RX7 10 (some .int) G cA (adr W9) []) {res : Int32 × MdS} (kb_103 : MdS → Int32 → Int32 → Int32 → Int32 → Int32 → Option (Int32 × MdS)) (hkb_103 : ∀ (zM : MdS) (x1 : Int32) (x2 : Int32) (x3 : Int32) (x5 : Int32) (x6 : Int32) (H : Heap) (locs : List Loc) (ls : Array Slot), va_P G vwCl ((wMd cA qM zM)) H → va_D (adr W9) ((wMd cA qM zM)) → va_S (adr W9) s.heap H locs → lv_has ls 10 [(0, .ref (qM 0)), (1, .int x1), (2, .int x2), (3, .int x3), (5, .int x5), (6, .int x6)] → kb_103 zM x1 x2 x3 x5 x6 = some res → W p l e rm_X7_times s m args below meth c H locs 0 0 (MQ below (qWi G W9 ((wMd cA qM res.2)) res.1) args s 0 0 (adr W9)) (F0 m 103 ls [])) : ∀ (fu : Nat) (zM : MdS) (x1 : Int32) (x2 : Int32) (x3 : Int32) (x5 : Int32) (x6 : Int32) (x7 : Int32) (H : Heap) (locs : List Loc) (ls : Array Slot), va_P G vwCl ((wMd cA qM zM)) H → va_D (adr W9) ((wMd cA qM zM)) → va_S (adr W9) s.heap H locs → lv_has ls 10 [(0, .ref (qM 0)), (1, .int x1), (2, .int x2), (3, .int x3), (5, .int x5), (6, .int x6), (7, .int x7)] → f_X7_times_114 kb_103 fu zM x1 x2 x3 x5 x6 x7 = some res → W p l e rm_X7_times s m args below meth c H locs 0 0 (MQ below (qWi G W9 ((wMd cA qM res.2)) res.1) args s 0 0 (adr W9)) (F0 m 114 ls []) := by
  obtain ⟨hx, hb, hr, hml, hown, hts, hlocks, hK, hR, hRA⟩ := id C0
  intro fu
  induction fu with
  | zero =>
    intro zM x1 x2 x3 x5 x6 x7 H locs ls hP hD hS hl hf
    rw [f_X7_times_114] at hf
    cases hf
  | succ fu ih =>
    intro zM x1 x2 x3 x5 x6 x7 H locs ls hP hD hS hl hf
    rw [f_X7_times_114] at hf
    refine lv_iload hx hb dX7_times_114 (lv_at hl 6 rfl) ?_
    refine lv_sipush (v := (1150 : Int32)) hx hb dX7_times_116 (by decide) ?_
    refine lv_icmp_ge (tgt := 295) hx hb dX7_times_119 (by decide) (fun c_1 => ?_) (fun c_1 => ?_)
    · rw [if_pos (c_1)] at hf
      exact b_X7_times_295 qM   C0 kb_103 hkb_103 zM x1 x2 x3 x5 x6 H locs ls hP hD hS (lv_sub hl [0, 1, 2, 3, 4, 5] rfl) hf
    · rw [if_neg (c_1)] at hf
      refine lv_aload_n hx hb dX7_times_122 rfl (lv_at hl 0 rfl) ?_
      refine va_get (D := G) (ci := 5) (v := .ref (qM 3)) (C := RX7) (T := TX7) (N := 13) hx hb hts fin_X7 hown hK.1 hP 0 rfl rfl 6 (by decide) (hts _ wi_677) (fun _ h9 => h9) rfl dX7_times_123 ?_
      refine lv_sipush (v := (1150 : Int32)) hx hb dX7_times_126 (by decide) ?_
      refine lv_iload_n hx hb dX7_times_129 rfl (lv_at hl 2 rfl) ?_
      refine lv_imul hx hb dX7_times_130 ?_
      refine lv_iload hx hb dX7_times_131 (lv_at hl 5 rfl) ?_
      refine lv_iadd hx hb dX7_times_133 ?_
      obtain ⟨hi_2, hf⟩ := oif hf
      refine va_lald hx hb hK.1 hP 3 1 rfl rfl (inb_in hi_2) dX7_times_134 ?_
      refine lv_lconst (v := (0 : Int64)) hx hb dX7_times_135 (by decide) ?_
      refine W.lcmp hx hb dX7_times_136 ?_
      refine lv_if_eq (tgt := 295) hx hb dX7_times_137 (by decide) (fun c_3 => ?_) (fun c_3 => ?_)
      · rw [if_pos ((lg_cmp_eq _ _).mp c_3)] at hf
        exact b_X7_times_295 qM   C0 kb_103 hkb_103 zM x1 x2 x3 x5 x6 H locs ls hP hD hS (lv_sub hl [0, 1, 2, 3, 4, 5] rfl) hf
      · rw [if_neg (fun h => c_3 ((lg_cmp_eq _ _).mpr h))] at hf
        refine lv_aload_n hx hb dX7_times_140 rfl (lv_at hl 0 rfl) ?_
        refine va_get (D := G) (ci := 5) (v := .ref (qM 3)) (C := RX7) (T := TX7) (N := 13) hx hb hts fin_X7 hown hK.1 hP 0 rfl rfl 6 (by decide) (hts _ wi_677) (fun _ h9 => h9) rfl dX7_times_141 ?_
        refine lv_sipush (v := (1150 : Int32)) hx hb dX7_times_144 (by decide) ?_
        refine lv_iload_n hx hb dX7_times_147 rfl (lv_at hl 3 rfl) ?_
        refine lv_imul hx hb dX7_times_148 ?_
        refine lv_iload hx hb dX7_times_149 (lv_at hl 6 rfl) ?_
        refine lv_iadd hx hb dX7_times_151 ?_
        obtain ⟨hi_4, hf⟩ := oif hf
        refine va_lald hx hb hK.1 hP 3 1 rfl rfl (inb_in hi_4) dX7_times_152 ?_
        refine lv_lconst (v := (0 : Int64)) hx hb dX7_times_153 (by decide) ?_
        refine W.lcmp hx hb dX7_times_154 ?_
        refine lv_if_ne (tgt := 161) hx hb dX7_times_155 (by decide) (fun c_5 => ?_) (fun c_5 => ?_)
        · rw [if_pos (fun h => c_5 ((lg_cmp_eq _ _).mpr h))] at hf
          refine lv_iload hx hb dX7_times_161 (lv_at hl 5 rfl) ?_
          refine lv_bipush (v := (25 : Int32)) hx hb dX7_times_163 (by decide) ?_
          refine lv_idiv hx hb dX7_times_165 (by decide) ?_
          obtain ⟨y_6, hq, hf⟩ := obd hf
          have hy_6 : (x6 / (25 : Int32)) = y_6 := Option.some.inj hq
          rw [hy_6]
          refine lv_istore (lv' := [(8, .int y_6), (0, .ref (qM 0)), (1, .int x1), (2, .int x2), (3, .int x3), (5, .int x5), (6, .int x6), (7, .int x7)]) hx hb dX7_times_166 hl (by decide) rfl (fun ls hl => ?_)
          refine lv_iload hx hb dX7_times_168 (lv_at hl 7 rfl) ?_
          refine lv_bipush (v := (25 : Int32)) hx hb dX7_times_170 (by decide) ?_
          refine lv_idiv hx hb dX7_times_172 (by decide) ?_
          obtain ⟨y_7, hq, hf⟩ := obd hf
          have hy_7 : (x7 / (25 : Int32)) = y_7 := Option.some.inj hq
          rw [hy_7]
          refine lv_istore (lv' := [(9, .int y_7), (8, .int y_6), (0, .ref (qM 0)), (1, .int x1), (2, .int x2), (3, .int x3), (5, .int x5), (6, .int x6), (7, .int x7)]) hx hb dX7_times_173 hl (by decide) rfl (fun ls hl => ?_)
          refine lv_iload hx hb dX7_times_175 (lv_at hl 1 rfl) ?_
          obtain ⟨r_8, hr_8, hf⟩ := obd hf
          refine cRiS (As := [.int y_6]) (rest := []) ⟨hx, hb, hml, hown, hts⟩ (m_X7_kindOf l G cA y_6 r_8 hr_8) (cw_X7_kindOf hts wi_833 ⟨Nat.le_of_ble_eq_true rfl, Nat.le_of_ble_eq_true rfl⟩) hK va_Pnil rfl hl.1 rfl (Nat.le_of_ble_eq_true rfl) dX7_times_177 ⟨Nat.zero_le _, Nat.zero_le _⟩ ?_
          refine lv_iload hx hb dX7_times_180 (lv_at hl 0 rfl) ?_
          obtain ⟨r_9, hr_9, hf⟩ := obd hf
          refine cRiS (As := [.int y_7]) (rest := [.int r_8]) ⟨hx, hb, hml, hown, hts⟩ (m_X7_kindOf l G cA y_7 r_9 hr_9) (cw_X7_kindOf hts wi_833 ⟨Nat.le_of_ble_eq_true rfl, Nat.le_of_ble_eq_true rfl⟩) hK va_Pnil rfl hl.1 rfl (Nat.le_of_ble_eq_true rfl) dX7_times_182 ⟨Nat.zero_le _, Nat.zero_le _⟩ ?_
          obtain ⟨r_10, hr_10, hf⟩ := obd hf
          refine cRiS (As := [.int r_8, .int r_9]) (rest := []) ⟨hx, hb, hml, hown, hts⟩ (m_X7_clash l G cA r_8 r_9 r_10 hr_10) (cw_X7_clash hts wi_858 ⟨Nat.le_of_ble_eq_true rfl, Nat.le_of_ble_eq_true rfl⟩) hK va_Pnil rfl hl.1 rfl (Nat.le_of_ble_eq_true rfl) dX7_times_185 ⟨Nat.zero_le _, Nat.zero_le _⟩ ?_
          refine lv_if_ne (tgt := 207) hx hb dX7_times_188 (by decide) (fun c_11 => ?_) (fun c_11 => ?_)
          · rw [if_pos (c_11)] at hf
            exact b_X7_times_207 qM   C0 kb_103 hkb_103 (fun zM_ x1_ x2_ x3_ x5_ x6_ x7_ => f_X7_times_114 kb_103 fu zM_ x1_ x2_ x3_ x5_ x6_ x7_) ih zM x1 x2 x3 x6 x7 H locs ls hP hD hS (lv_sub hl [2, 3, 4, 5, 7, 8] rfl) hf
          · rw [if_neg (not_not_intro c_11)] at hf
            refine lv_iload hx hb dX7_times_191 (lv_at hl 0 rfl) ?_
            obtain ⟨r_12, hr_12, hf⟩ := obd hf
            refine cRiS (As := [.int y_7]) (rest := []) ⟨hx, hb, hml, hown, hts⟩ (m_X7_kindOf l G cA y_7 r_12 hr_12) (cw_X7_kindOf hts wi_833 ⟨Nat.le_of_ble_eq_true rfl, Nat.le_of_ble_eq_true rfl⟩) hK va_Pnil rfl hl.1 rfl (Nat.le_of_ble_eq_true rfl) dX7_times_193 ⟨Nat.zero_le _, Nat.zero_le _⟩ ?_
            refine lv_iload hx hb dX7_times_196 (lv_at hl 1 rfl) ?_
            obtain ⟨r_13, hr_13, hf⟩ := obd hf
            refine cRiS (As := [.int y_6]) (rest := [.int r_12]) ⟨hx, hb, hml, hown, hts⟩ (m_X7_kindOf l G cA y_6 r_13 hr_13) (cw_X7_kindOf hts wi_833 ⟨Nat.le_of_ble_eq_true rfl, Nat.le_of_ble_eq_true rfl⟩) hK va_Pnil rfl hl.1 rfl (Nat.le_of_ble_eq_true rfl) dX7_times_198 ⟨Nat.zero_le _, Nat.zero_le _⟩ ?_
            obtain ⟨r_14, hr_14, hf⟩ := obd hf
            refine cRiS (As := [.int r_12, .int r_13]) (rest := []) ⟨hx, hb, hml, hown, hts⟩ (m_X7_clash l G cA r_12 r_13 r_14 hr_14) (cw_X7_clash hts wi_858 ⟨Nat.le_of_ble_eq_true rfl, Nat.le_of_ble_eq_true rfl⟩) hK va_Pnil rfl hl.1 rfl (Nat.le_of_ble_eq_true rfl) dX7_times_201 ⟨Nat.zero_le _, Nat.zero_le _⟩ ?_
            refine lv_if_eq (tgt := 213) hx hb dX7_times_204 (by decide) (fun c_15 => ?_) (fun c_15 => ?_)
            · rw [if_pos (c_15)] at hf
              refine lv_aload_n hx hb dX7_times_213 rfl (lv_at hl 2 rfl) ?_
              refine lv_iload hx hb dX7_times_214 (lv_at hl 1 rfl) ?_
              refine lv_iload hx hb dX7_times_216 (lv_at hl 0 rfl) ?_
              refine lv_iload hx hb dX7_times_218 (lv_at hl 7 rfl) ?_
              refine lv_bipush (v := (25 : Int32)) hx hb dX7_times_220 (by decide) ?_
              refine lv_irem hx hb dX7_times_222 (by decide) ?_
              refine lv_iload hx hb dX7_times_223 (lv_at hl 8 rfl) ?_
              refine lv_bipush (v := (25 : Int32)) hx hb dX7_times_225 (by decide) ?_
              refine lv_irem hx hb dX7_times_227 (by decide) ?_
              refine lv_iadd hx hb dX7_times_228 ?_
              refine lv_bipush (v := (24 : Int32)) hx hb dX7_times_229 (by decide) ?_
              refine lv_isub hx hb dX7_times_231 ?_
              refine lv_aload_n hx hb dX7_times_232 rfl (lv_at hl 2 rfl) ?_
              refine va_get (D := G) (ci := 5) (v := .ref (qM 3)) (C := RX7) (T := TX7) (N := 13) hx hb hts fin_X7 hown hK.1 hP 0 rfl rfl 6 (by decide) (hts _ wi_677) (fun _ h9 => h9) rfl dX7_times_233 ?_
              refine lv_sipush (v := (1150 : Int32)) hx hb dX7_times_236 (by decide) ?_
              refine lv_iload_n hx hb dX7_times_239 rfl (lv_at hl 4 rfl) ?_
              refine lv_imul hx hb dX7_times_240 ?_
              refine lv_iload hx hb dX7_times_241 (lv_at hl 7 rfl) ?_
              refine lv_iadd hx hb dX7_times_243 ?_
              obtain ⟨hi_16, hf⟩ := oif hf
              refine va_lald hx hb hK.1 hP 3 1 rfl rfl (inb_in hi_16) dX7_times_244 ?_
              refine lv_aload_n hx hb dX7_times_245 rfl (lv_at hl 2 rfl) ?_
              refine va_get (D := G) (ci := 5) (v := .ref (qM 3)) (C := RX7) (T := TX7) (N := 13) hx hb hts fin_X7 hown hK.1 hP 0 rfl rfl 6 (by decide) (hts _ wi_677) (fun _ h9 => h9) rfl dX7_times_246 ?_
              refine lv_sipush (v := (1150 : Int32)) hx hb dX7_times_249 (by decide) ?_
              refine lv_iload_n hx hb dX7_times_252 rfl (lv_at hl 5 rfl) ?_
              refine lv_imul hx hb dX7_times_253 ?_
              refine lv_iload hx hb dX7_times_254 (lv_at hl 8 rfl) ?_
              refine lv_iadd hx hb dX7_times_256 ?_
              obtain ⟨hi_17, hf⟩ := oif hf
              refine va_lald hx hb hK.1 hP 3 1 rfl rfl (inb_in hi_17) dX7_times_257 ?_
              refine lv_lmul hx hb dX7_times_258 ?_
              refine lv_aload_n hx hb dX7_times_259 rfl (lv_at hl 2 rfl) ?_
              refine va_get (D := G) (ci := 5) (v := .ref (qM 4)) (C := RX7) (T := TX7) (N := 13) hx hb hts fin_X7 hown hK.1 hP 0 rfl rfl 7 (by decide) (hts _ wi_678) (fun _ h9 => h9) rfl dX7_times_260 ?_
              refine lv_sipush (v := (1150 : Int32)) hx hb dX7_times_263 (by decide) ?_
              refine lv_iload_n hx hb dX7_times_266 rfl (lv_at hl 4 rfl) ?_
              refine lv_imul hx hb dX7_times_267 ?_
              refine lv_iload hx hb dX7_times_268 (lv_at hl 7 rfl) ?_
              refine lv_iadd hx hb dX7_times_270 ?_
              obtain ⟨hi_18, hf⟩ := oif hf
              refine va_lald hx hb hK.1 hP 4 1 rfl rfl (inb_in hi_18) dX7_times_271 ?_
              refine lv_aload_n hx hb dX7_times_272 rfl (lv_at hl 2 rfl) ?_
              refine va_get (D := G) (ci := 5) (v := .ref (qM 4)) (C := RX7) (T := TX7) (N := 13) hx hb hts fin_X7 hown hK.1 hP 0 rfl rfl 7 (by decide) (hts _ wi_678) (fun _ h9 => h9) rfl dX7_times_273 ?_
              refine lv_sipush (v := (1150 : Int32)) hx hb dX7_times_276 (by decide) ?_
              refine lv_iload_n hx hb dX7_times_279 rfl (lv_at hl 5 rfl) ?_
              refine lv_imul hx hb dX7_times_280 ?_
              refine lv_iload hx hb dX7_times_281 (lv_at hl 8 rfl) ?_
              refine lv_iadd hx hb dX7_times_283 ?_
              obtain ⟨hi_19, hf⟩ := oif hf
              refine va_lald hx hb hK.1 hP 4 1 rfl rfl (inb_in hi_19) dX7_times_284 ?_
              refine lv_lmul hx hb dX7_times_285 ?_
              obtain ⟨r_20, hr_20, hf⟩ := obd hf
              refine cWvV (As := [.int y_6, .int y_7, .int (((x6 - x6 / (25 : Int32) * (25 : Int32)) + (x7 - x7 / (25 : Int32) * (25 : Int32))) - (24 : Int32)), .long ((gM_up zM (((1150 : Int32) * x2) + x6).toNatClampNeg) * (gM_up zM (((1150 : Int32) * x3) + x7).toNatClampNeg)), .long ((gM_down zM (((1150 : Int32) * x2) + x6).toNatClampNeg) * (gM_down zM (((1150 : Int32) * x3) + x7).toNatClampNeg))]) (rest := []) (W1 := ((wMd cA qM r_20))) ⟨hx, hb, hml, hown, hts⟩ (m_X7_multiply l G cA qM zM y_6 y_7 (((x6 - x6 / (25 : Int32) * (25 : Int32)) + (x7 - x7 / (25 : Int32) * (25 : Int32))) - (24 : Int32)) ((gM_up zM (((1150 : Int32) * x2) + x6).toNatClampNeg) * (gM_up zM (((1150 : Int32) * x3) + x7).toNatClampNeg)) ((gM_down zM (((1150 : Int32) * x2) + x6).toNatClampNeg) * (gM_down zM (((1150 : Int32) * x3) + x7).toNatClampNeg)) r_20 hr_20) (cw_X7_multiply hts wi_861 ⟨Nat.le_of_ble_eq_true rfl, Nat.le_of_ble_eq_true rfl⟩) hK hP hD hS [0, 1, 2, 3, 4] [5, 6, 7, 8, 9] rfl rfl rfl (by decide) rfl va_Pnil dj_nil (va_recv hK.1 hP (ci := 5) (q0 := 0) rfl rfl) rfl hl.1 rfl (Nat.le_of_ble_eq_true rfl) dX7_times_286 ⟨Nat.zero_le _, Nat.zero_le _⟩ (fun H locs hP hD hS => ?_)
              exact b_X7_times_289 qM   C0 kb_103 hkb_103 (fun zM_ x1_ x2_ x3_ x5_ x6_ x7_ => f_X7_times_114 kb_103 fu zM_ x1_ x2_ x3_ x5_ x6_ x7_) ih r_20 x1 x2 x3 x5 x6 x7 H locs ls hP hD hS (lv_sub hl [2, 3, 4, 5, 6, 7, 8] rfl) hf
            · rw [if_neg (c_15)] at hf
              exact b_X7_times_207 qM   C0 kb_103 hkb_103 (fun zM_ x1_ x2_ x3_ x5_ x6_ x7_ => f_X7_times_114 kb_103 fu zM_ x1_ x2_ x3_ x5_ x6_ x7_) ih zM x1 x2 x3 x6 x7 H locs ls hP hD hS (lv_sub hl [2, 3, 4, 5, 7, 8] rfl) hf
        · rw [if_neg (fun h => h ((lg_cmp_eq _ _).mp c_5))] at hf
          refine lv_goto (tgt := 289) hx hb dX7_times_158 (by decide) ?_
          exact b_X7_times_289 qM   C0 kb_103 hkb_103 (fun zM_ x1_ x2_ x3_ x5_ x6_ x7_ => f_X7_times_114 kb_103 fu zM_ x1_ x2_ x3_ x5_ x6_ x7_) ih zM x1 x2 x3 x5 x6 x7 H locs ls hP hD hS (lv_sub hl [0, 1, 2, 3, 4, 5, 6] rfl) hf
def f_X7_times_103  : Nat → MdS → Int32 → Int32 → Int32 → Int32 → Int32 → Option (Int32 × MdS)
  | 0, _, _, _, _, _, _ => none
  | fu + 1, zM, x1, x2, x3, x5, x6 => if (1150 : Int32) ≤ x6 then if x5 = 0 then (f_X7_finish zM x1).bind fun r_3 => some (r_3.1, r_3.2) else some ((-5 : Int32), zM) else f_X7_times_114 (fun zM_ x1_ x2_ x3_ x5_ x6_ => f_X7_times_103  fu zM_ x1_ x2_ x3_ x5_ x6_) fuel zM x1 x2 x3 x5 x6 (0 : Int32)
set_option maxHeartbeats 4000000 in
set_option maxRecDepth 100000 in
theorem b_X7_times_103 {p : Program} {l : Launch} {e : Env} {s : State} {m : MethodId} {args : Array Value} {below : List Frame} {meth : Method} {c : Code} {G : va_G} {cA : Nat → ClassId} {W9 : va_W} (qM : Nat → Nat) (C0 : Amb p s m args meth c cX7_times RX7 10 (some .int) G cA (adr W9) []) {res : Int32 × MdS} : ∀ (fu : Nat) (zM : MdS) (x1 : Int32) (x2 : Int32) (x3 : Int32) (x5 : Int32) (x6 : Int32) (H : Heap) (locs : List Loc) (ls : Array Slot), va_P G vwCl ((wMd cA qM zM)) H → va_D (adr W9) ((wMd cA qM zM)) → va_S (adr W9) s.heap H locs → lv_has ls 10 [(0, .ref (qM 0)), (1, .int x1), (2, .int x2), (3, .int x3), (5, .int x5), (6, .int x6)] → f_X7_times_103 fu zM x1 x2 x3 x5 x6 = some res → W p l e rm_X7_times s m args below meth c H locs 0 0 (MQ below (qWi G W9 ((wMd cA qM res.2)) res.1) args s 0 0 (adr W9)) (F0 m 103 ls []) := by
  obtain ⟨hx, hb, hr, hml, hown, hts, hlocks, hK, hR, hRA⟩ := id C0
  intro fu
  induction fu with
  | zero =>
    intro zM x1 x2 x3 x5 x6 H locs ls hP hD hS hl hf
    rw [f_X7_times_103] at hf
    cases hf
  | succ fu ih =>
    intro zM x1 x2 x3 x5 x6 H locs ls hP hD hS hl hf
    rw [f_X7_times_103] at hf
    refine lv_iload hx hb dX7_times_103 (lv_at hl 5 rfl) ?_
    refine lv_sipush (v := (1150 : Int32)) hx hb dX7_times_105 (by decide) ?_
    refine lv_icmp_ge (tgt := 301) hx hb dX7_times_108 (by decide) (fun c_1 => ?_) (fun c_1 => ?_)
    · rw [if_pos (c_1)] at hf
      refine lv_iload hx hb dX7_times_301 (lv_at hl 4 rfl) ?_
      refine lv_if_eq (tgt := 311) hx hb dX7_times_303 (by decide) (fun c_2 => ?_) (fun c_2 => ?_)
      · rw [if_pos (c_2)] at hf
        refine lv_aload_n hx hb dX7_times_311 rfl (lv_at hl 0 rfl) ?_
        refine lv_iload_n hx hb dX7_times_312 rfl (lv_at hl 1 rfl) ?_
        obtain ⟨r_3, hr_3, hf⟩ := obd hf
        refine cWiV (As := [.int x1]) (rest := []) (W1 := ((wMd cA qM r_3.2))) ⟨hx, hb, hml, hown, hts⟩ (m_X7_finish l G cA qM zM x1 r_3 hr_3) (cw_X7_finish hts wi_790 ⟨Nat.le_of_ble_eq_true rfl, Nat.le_of_ble_eq_true rfl⟩) hK hP hD hS [0, 1, 2, 3, 4] [5, 6, 7, 8, 9] rfl rfl rfl (by decide) rfl va_Pnil dj_nil (va_recv hK.1 hP (ci := 5) (q0 := 0) rfl rfl) rfl hl.1 rfl (Nat.le_of_ble_eq_true rfl) dX7_times_313 ⟨Nat.zero_le _, Nat.zero_le _⟩ (fun H locs hP hD hS => ?_)
        cases hf
        exact W.iret hx hb hr (fun t ht hW => ⟨⟨_, (), rfl, rfl, toT ht hP⟩, hS.F ht⟩) hS.2.2 dX7_times_316 hlocks
      · rw [if_neg (c_2)] at hf
        refine lv_bipush (v := (-5 : Int32)) hx hb dX7_times_306 (by decide) ?_
        refine lv_goto (tgt := 316) hx hb dX7_times_308 (by decide) ?_
        cases hf
        exact W.iret hx hb hr (fun t ht hW => ⟨⟨_, (), rfl, rfl, toT ht hP⟩, hS.F ht⟩) hS.2.2 dX7_times_316 hlocks
    · rw [if_neg (c_1)] at hf
      refine lv_iconst (v := 0) hx hb dX7_times_111 (by decide) ?_
      refine lv_istore (lv' := [(7, .int (0 : Int32)), (0, .ref (qM 0)), (1, .int x1), (2, .int x2), (3, .int x3), (5, .int x5), (6, .int x6)]) hx hb dX7_times_112 hl (by decide) rfl (fun ls hl => ?_)
      exact b_X7_times_114 qM   C0 (fun zM_ x1_ x2_ x3_ x5_ x6_ => f_X7_times_103  fu zM_ x1_ x2_ x3_ x5_ x6_) ih fuel zM x1 x2 x3 x5 x6 (0 : Int32) H locs ls hP hD hS (lv_sub hl [1, 2, 3, 4, 5, 6, 0] rfl) hf
def f_X7_times_59 (zM : MdS) (x1 : Int32) (x2 : Int32) (x3 : Int32) (v1 : Int32) : Option (Int32 × MdS) := (f_X7_refused zM v1).bind fun r_1 => if r_1.1 = 0 then (f_X7_termsOf r_1.2 x2).bind fun r_3 => (f_X7_termsOf r_1.2 x3).bind fun r_4 => if (r_3 * r_4) ≤ (100 : Int32) then (f_X7_empty (uM_isFull r_1.2 (0 : Int32)) (8 : Int32)).bind fun r_6 => f_X7_times_103 fuel r_6 x1 x2 x3 (0 : Int32) (0 : Int32) else some ((-4 : Int32), r_1.2) else some ((0 : Int32), r_1.2)
set_option maxHeartbeats 4000000 in
set_option maxRecDepth 100000 in
theorem b_X7_times_59 {p : Program} {l : Launch} {e : Env} {s : State} {m : MethodId} {args : Array Value} {below : List Frame} {meth : Method} {c : Code} {G : va_G} {cA : Nat → ClassId} {W9 : va_W} (qM : Nat → Nat) (C0 : Amb p s m args meth c cX7_times RX7 10 (some .int) G cA (adr W9) []) {res : Int32 × MdS} : ∀ (zM : MdS) (x1 : Int32) (x2 : Int32) (x3 : Int32) (v1 : Int32) (H : Heap) (locs : List Loc) (ls : Array Slot), va_P G vwCl ((wMd cA qM zM)) H → va_D (adr W9) ((wMd cA qM zM)) → va_S (adr W9) s.heap H locs → lv_has ls 10 [(0, .ref (qM 0)), (1, .int x1), (2, .int x2), (3, .int x3)] → f_X7_times_59 zM x1 x2 x3 v1 = some res → W p l e rm_X7_times s m args below meth c H locs 0 0 (MQ below (qWi G W9 ((wMd cA qM res.2)) res.1) args s 0 0 (adr W9)) (F0 m 59 ls [.int v1, .ref (qM 0)]) := by
  obtain ⟨hx, hb, hr, hml, hown, hts, hlocks, hK, hR, hRA⟩ := id C0
  intro zM x1 x2 x3 v1 H locs ls hP hD hS hl hf
  unfold f_X7_times_59 at hf
  obtain ⟨r_1, hr_1, hf⟩ := obd hf
  refine cWiV (As := [.int v1]) (rest := []) (W1 := ((wMd cA qM r_1.2))) ⟨hx, hb, hml, hown, hts⟩ (m_X7_refused l G cA qM zM v1 r_1 hr_1) (cw_X7_refused hts wi_723 ⟨Nat.le_of_ble_eq_true rfl, Nat.le_of_ble_eq_true rfl⟩) hK hP hD hS [0, 1, 2, 3, 4] [5, 6, 7, 8, 9] rfl rfl rfl (by decide) rfl va_Pnil dj_nil (va_recv hK.1 hP (ci := 5) (q0 := 0) rfl rfl) rfl hl.1 rfl (Nat.le_of_ble_eq_true rfl) dX7_times_59 ⟨Nat.zero_le _, Nat.zero_le _⟩ (fun H locs hP hD hS => ?_)
  refine lv_if_eq (tgt := 67) hx hb dX7_times_62 (by decide) (fun c_2 => ?_) (fun c_2 => ?_)
  · rw [if_pos (c_2)] at hf
    refine lv_aload_n hx hb dX7_times_67 rfl (lv_at hl 0 rfl) ?_
    refine lv_iload_n hx hb dX7_times_68 rfl (lv_at hl 2 rfl) ?_
    obtain ⟨r_3, hr_3, hf⟩ := obd hf
    refine cRiV (As := [.int x2]) (rest := []) ⟨hx, hb, hml, hown, hts⟩ (m_X7_termsOf l G cA qM r_1.2 x2 r_3 hr_3) (cw_X7_termsOf hts wi_798 ⟨Nat.le_of_ble_eq_true rfl, Nat.le_of_ble_eq_true rfl⟩) hK (pk hP [0, 1, 2, 3, 4] rfl) (va_recv hK.1 hP (ci := 5) (q0 := 0) rfl rfl) rfl hl.1 rfl (Nat.le_of_ble_eq_true rfl) dX7_times_69 ⟨Nat.zero_le _, Nat.zero_le _⟩ ?_
    refine lv_aload_n hx hb dX7_times_72 rfl (lv_at hl 0 rfl) ?_
    refine lv_iload_n hx hb dX7_times_73 rfl (lv_at hl 3 rfl) ?_
    obtain ⟨r_4, hr_4, hf⟩ := obd hf
    refine cRiV (As := [.int x3]) (rest := [.int r_3]) ⟨hx, hb, hml, hown, hts⟩ (m_X7_termsOf l G cA qM r_1.2 x3 r_4 hr_4) (cw_X7_termsOf hts wi_798 ⟨Nat.le_of_ble_eq_true rfl, Nat.le_of_ble_eq_true rfl⟩) hK (pk hP [0, 1, 2, 3, 4] rfl) (va_recv hK.1 hP (ci := 5) (q0 := 0) rfl rfl) rfl hl.1 rfl (Nat.le_of_ble_eq_true rfl) dX7_times_74 ⟨Nat.zero_le _, Nat.zero_le _⟩ ?_
    refine lv_imul hx hb dX7_times_77 ?_
    refine lv_bipush (v := (100 : Int32)) hx hb dX7_times_78 (by decide) ?_
    refine lv_icmp_le (tgt := 86) hx hb dX7_times_80 (by decide) (fun c_5 => ?_) (fun c_5 => ?_)
    · rw [if_pos (c_5)] at hf
      refine lv_aload_n hx hb dX7_times_86 rfl (lv_at hl 0 rfl) ?_
      refine lv_iconst (v := 0) hx hb dX7_times_87 (by decide) ?_
      refine va_put (D := G) (ci := 5) (v := .int (0 : Int32)) (ty := .boolean) (C := RX7) (T := TX7) (N := 13) hx hb hts fin_X7 tyX7 tyX7_ok nmX7 hown hK.1 hP hD hS 0 rfl rfl 8 (by decide) (hts _ wi_679) (fun _ h9 => h9) rfl (by decide +kernel) (by decide) (by decide) (Nat.le_of_ble_eq_true rfl) dX7_times_88 (fun H locs hP hD hS => ?_)
      have hP := sM_isFull_P hP
      have hD := sM_isFull_D hD
      refine lv_aload_n hx hb dX7_times_91 rfl (lv_at hl 0 rfl) ?_
      refine lv_bipush (v := (8 : Int32)) hx hb dX7_times_92 (by decide) ?_
      obtain ⟨r_6, hr_6, hf⟩ := obd hf
      refine cWvV (As := [.int (8 : Int32)]) (rest := []) (W1 := ((wMd cA qM r_6))) ⟨hx, hb, hml, hown, hts⟩ (m_X7_empty l G cA qM (uM_isFull r_1.2 (0 : Int32)) (8 : Int32) r_6 hr_6) (cw_X7_empty hts wi_738 ⟨Nat.le_of_ble_eq_true rfl, Nat.le_of_ble_eq_true rfl⟩) hK hP hD hS [0, 1, 2, 3, 4] [5, 6, 7, 8, 9] rfl rfl rfl (by decide) rfl va_Pnil dj_nil (va_recv hK.1 hP (ci := 5) (q0 := 0) rfl rfl) rfl hl.1 rfl (Nat.le_of_ble_eq_true rfl) dX7_times_94 ⟨Nat.zero_le _, Nat.zero_le _⟩ (fun H locs hP hD hS => ?_)
      refine lv_iconst (v := 0) hx hb dX7_times_97 (by decide) ?_
      refine lv_istore (lv' := [(5, .int (0 : Int32)), (0, .ref (qM 0)), (1, .int x1), (2, .int x2), (3, .int x3)]) hx hb dX7_times_98 hl (by decide) rfl (fun ls hl => ?_)
      refine lv_iconst (v := 0) hx hb dX7_times_100 (by decide) ?_
      refine lv_istore (lv' := [(6, .int (0 : Int32)), (5, .int (0 : Int32)), (0, .ref (qM 0)), (1, .int x1), (2, .int x2), (3, .int x3)]) hx hb dX7_times_101 hl (by decide) rfl (fun ls hl => ?_)
      exact b_X7_times_103 qM   C0  fuel r_6 x1 x2 x3 (0 : Int32) (0 : Int32) H locs ls hP hD hS (lv_sub hl [2, 3, 4, 5, 1, 0] rfl) hf
    · rw [if_neg (c_5)] at hf
      refine lv_bipush (v := (-4 : Int32)) hx hb dX7_times_83 (by decide) ?_
      cases hf
      exact W.iret hx hb hr (fun t ht hW => ⟨⟨_, (), rfl, rfl, toT ht hP⟩, hS.F ht⟩) hS.2.2 dX7_times_85 hlocks
  · rw [if_neg (c_2)] at hf
    refine lv_iconst (v := 0) hx hb dX7_times_65 (by decide) ?_
    cases hf
    exact W.iret hx hb hr (fun t ht hW => ⟨⟨_, (), rfl, rfl, toT ht hP⟩, hS.F ht⟩) hS.2.2 dX7_times_66 hlocks
def f_X7_times_54 (zM : MdS) (x1 : Int32) (x2 : Int32) (x3 : Int32) : Option (Int32 × MdS) := f_X7_times_59  zM x1 x2 x3 (2 : Int32)
set_option maxHeartbeats 4000000 in
set_option maxRecDepth 100000 in
theorem b_X7_times_54 {p : Program} {l : Launch} {e : Env} {s : State} {m : MethodId} {args : Array Value} {below : List Frame} {meth : Method} {c : Code} {G : va_G} {cA : Nat → ClassId} {W9 : va_W} (qM : Nat → Nat) (C0 : Amb p s m args meth c cX7_times RX7 10 (some .int) G cA (adr W9) []) {res : Int32 × MdS} : ∀ (zM : MdS) (x1 : Int32) (x2 : Int32) (x3 : Int32) (H : Heap) (locs : List Loc) (ls : Array Slot), va_P G vwCl ((wMd cA qM zM)) H → va_D (adr W9) ((wMd cA qM zM)) → va_S (adr W9) s.heap H locs → lv_has ls 10 [(0, .ref (qM 0)), (1, .int x1), (2, .int x2), (3, .int x3)] → f_X7_times_54 zM x1 x2 x3 = some res → W p l e rm_X7_times s m args below meth c H locs 0 0 (MQ below (qWi G W9 ((wMd cA qM res.2)) res.1) args s 0 0 (adr W9)) (F0 m 54 ls [.ref (qM 0)]) := by
  obtain ⟨hx, hb, hr, hml, hown, hts, hlocks, hK, hR, hRA⟩ := id C0
  intro zM x1 x2 x3 H locs ls hP hD hS hl hf
  unfold f_X7_times_54 at hf
  refine lv_iconst (v := 2) hx hb dX7_times_54 (by decide) ?_
  refine lv_goto (tgt := 59) hx hb dX7_times_55 (by decide) ?_
  exact b_X7_times_59 qM   C0  zM x1 x2 x3 (2 : Int32) H locs ls hP hD hS (lv_sub hl [0, 1, 2, 3] rfl) hf
def f_X7_times_26 (zM : MdS) (x1 : Int32) (x2 : Int32) (x3 : Int32) (v0 : Int32) : Option (Int32 × MdS) := if ¬ v0 = 0 then (f_X7_isSmall zM x2).bind fun r_2 => if r_2 = 0 then f_X7_times_54  zM x1 x2 x3 else (f_X7_isSmall zM x3).bind fun r_4 => if ¬ r_4 = 0 then f_X7_times_59  zM x1 x2 x3 (0 : Int32) else f_X7_times_54  zM x1 x2 x3 else f_X7_times_59  zM x1 x2 x3 (1 : Int32)
set_option maxHeartbeats 4000000 in
set_option maxRecDepth 100000 in
theorem b_X7_times_26 {p : Program} {l : Launch} {e : Env} {s : State} {m : MethodId} {args : Array Value} {below : List Frame} {meth : Method} {c : Code} {G : va_G} {cA : Nat → ClassId} {W9 : va_W} (qM : Nat → Nat) (C0 : Amb p s m args meth c cX7_times RX7 10 (some .int) G cA (adr W9) []) {res : Int32 × MdS} : ∀ (zM : MdS) (x1 : Int32) (x2 : Int32) (x3 : Int32) (v0 : Int32) (H : Heap) (locs : List Loc) (ls : Array Slot), va_P G vwCl ((wMd cA qM zM)) H → va_D (adr W9) ((wMd cA qM zM)) → va_S (adr W9) s.heap H locs → lv_has ls 10 [(0, .ref (qM 0)), (1, .int x1), (2, .int x2), (3, .int x3)] → f_X7_times_26 zM x1 x2 x3 v0 = some res → W p l e rm_X7_times s m args below meth c H locs 0 0 (MQ below (qWi G W9 ((wMd cA qM res.2)) res.1) args s 0 0 (adr W9)) (F0 m 26 ls [.int v0]) := by
  obtain ⟨hx, hb, hr, hml, hown, hts, hlocks, hK, hR, hRA⟩ := id C0
  intro zM x1 x2 x3 v0 H locs ls hP hD hS hl hf
  unfold f_X7_times_26 at hf
  refine lv_istore (lv' := [(4, .int v0), (0, .ref (qM 0)), (1, .int x1), (2, .int x2), (3, .int x3)]) hx hb dX7_times_26 hl (by decide) rfl (fun ls hl => ?_)
  refine lv_aload_n hx hb dX7_times_28 rfl (lv_at hl 1 rfl) ?_
  refine lv_iload hx hb dX7_times_29 (lv_at hl 0 rfl) ?_
  refine lv_if_ne (tgt := 38) hx hb dX7_times_31 (by decide) (fun c_1 => ?_) (fun c_1 => ?_)
  · rw [if_pos (c_1)] at hf
    refine lv_aload_n hx hb dX7_times_38 rfl (lv_at hl 1 rfl) ?_
    refine lv_iload_n hx hb dX7_times_39 rfl (lv_at hl 3 rfl) ?_
    obtain ⟨r_2, hr_2, hf⟩ := obd hf
    refine cRiV (As := [.int x2]) (rest := [.ref (qM 0)]) ⟨hx, hb, hml, hown, hts⟩ (m_X7_isSmall l G cA qM zM x2 r_2 hr_2) (cw_X7_isSmall hts wi_847 ⟨Nat.le_of_ble_eq_true rfl, Nat.le_of_ble_eq_true rfl⟩) hK (pk hP [0, 1, 2, 3, 4] rfl) (va_recv hK.1 hP (ci := 5) (q0 := 0) rfl rfl) rfl hl.1 rfl (Nat.le_of_ble_eq_true rfl) dX7_times_40 ⟨Nat.zero_le _, Nat.zero_le _⟩ ?_
    refine lv_if_eq (tgt := 54) hx hb dX7_times_43 (by decide) (fun c_3 => ?_) (fun c_3 => ?_)
    · rw [if_pos (c_3)] at hf
      exact b_X7_times_54 qM   C0  zM x1 x2 x3 H locs ls hP hD hS (lv_sub hl [1, 2, 3, 4] rfl) hf
    · rw [if_neg (c_3)] at hf
      refine lv_aload_n hx hb dX7_times_46 rfl (lv_at hl 1 rfl) ?_
      refine lv_iload_n hx hb dX7_times_47 rfl (lv_at hl 4 rfl) ?_
      obtain ⟨r_4, hr_4, hf⟩ := obd hf
      refine cRiV (As := [.int x3]) (rest := [.ref (qM 0)]) ⟨hx, hb, hml, hown, hts⟩ (m_X7_isSmall l G cA qM zM x3 r_4 hr_4) (cw_X7_isSmall hts wi_847 ⟨Nat.le_of_ble_eq_true rfl, Nat.le_of_ble_eq_true rfl⟩) hK (pk hP [0, 1, 2, 3, 4] rfl) (va_recv hK.1 hP (ci := 5) (q0 := 0) rfl rfl) rfl hl.1 rfl (Nat.le_of_ble_eq_true rfl) dX7_times_48 ⟨Nat.zero_le _, Nat.zero_le _⟩ ?_
      refine lv_if_ne (tgt := 58) hx hb dX7_times_51 (by decide) (fun c_5 => ?_) (fun c_5 => ?_)
      · rw [if_pos (c_5)] at hf
        refine lv_iconst (v := 0) hx hb dX7_times_58 (by decide) ?_
        exact b_X7_times_59 qM   C0  zM x1 x2 x3 (0 : Int32) H locs ls hP hD hS (lv_sub hl [1, 2, 3, 4] rfl) hf
      · rw [if_neg (not_not_intro c_5)] at hf
        exact b_X7_times_54 qM   C0  zM x1 x2 x3 H locs ls hP hD hS (lv_sub hl [1, 2, 3, 4] rfl) hf
  · rw [if_neg (not_not_intro c_1)] at hf
    refine lv_iconst (v := 1) hx hb dX7_times_34 (by decide) ?_
    refine lv_goto (tgt := 59) hx hb dX7_times_35 (by decide) ?_
    exact b_X7_times_59 qM   C0  zM x1 x2 x3 (1 : Int32) H locs ls hP hD hS (lv_sub hl [1, 2, 3, 4] rfl) hf
def f_X7_times_25 (zM : MdS) (x1 : Int32) (x2 : Int32) (x3 : Int32) : Option (Int32 × MdS) := f_X7_times_26  zM x1 x2 x3 (0 : Int32)
set_option maxHeartbeats 4000000 in
set_option maxRecDepth 100000 in
theorem b_X7_times_25 {p : Program} {l : Launch} {e : Env} {s : State} {m : MethodId} {args : Array Value} {below : List Frame} {meth : Method} {c : Code} {G : va_G} {cA : Nat → ClassId} {W9 : va_W} (qM : Nat → Nat) (C0 : Amb p s m args meth c cX7_times RX7 10 (some .int) G cA (adr W9) []) {res : Int32 × MdS} : ∀ (zM : MdS) (x1 : Int32) (x2 : Int32) (x3 : Int32) (H : Heap) (locs : List Loc) (ls : Array Slot), va_P G vwCl ((wMd cA qM zM)) H → va_D (adr W9) ((wMd cA qM zM)) → va_S (adr W9) s.heap H locs → lv_has ls 10 [(0, .ref (qM 0)), (1, .int x1), (2, .int x2), (3, .int x3)] → f_X7_times_25 zM x1 x2 x3 = some res → W p l e rm_X7_times s m args below meth c H locs 0 0 (MQ below (qWi G W9 ((wMd cA qM res.2)) res.1) args s 0 0 (adr W9)) (F0 m 25 ls []) := by
  obtain ⟨hx, hb, hr, hml, hown, hts, hlocks, hK, hR, hRA⟩ := id C0
  intro zM x1 x2 x3 H locs ls hP hD hS hl hf
  unfold f_X7_times_25 at hf
  refine lv_iconst (v := 0) hx hb dX7_times_25 (by decide) ?_
  exact b_X7_times_26 qM   C0  zM x1 x2 x3 (0 : Int32) H locs ls hP hD hS (lv_sub hl [0, 1, 2, 3] rfl) hf
def f_X7_times (zM : MdS) (a1 : Int32) (a2 : Int32) (a3 : Int32) : Option (Int32 × MdS) := (f_X7_isSlot a1).bind fun r_1 => if r_1 = 0 then f_X7_times_25  zM a1 a2 a3 else (f_X7_isSlot a2).bind fun r_3 => if r_3 = 0 then f_X7_times_25  zM a1 a2 a3 else (f_X7_isSlot a3).bind fun r_5 => if r_5 = 0 then f_X7_times_25  zM a1 a2 a3 else f_X7_times_26  zM a1 a2 a3 (1 : Int32)
set_option maxHeartbeats 4000000 in
set_option maxRecDepth 100000 in
theorem b_X7_times_0 {p : Program} {l : Launch} {e : Env} {s : State} {m : MethodId} {args : Array Value} {below : List Frame} {meth : Method} {c : Code} {G : va_G} {cA : Nat → ClassId} {W9 : va_W} (qM : Nat → Nat) (C0 : Amb p s m args meth c cX7_times RX7 10 (some .int) G cA (adr W9) []) {res : Int32 × MdS} : ∀ (zM : MdS) (a1 : Int32) (a2 : Int32) (a3 : Int32) (H : Heap) (locs : List Loc) (ls : Array Slot), va_P G vwCl ((wMd cA qM zM)) H → va_D (adr W9) ((wMd cA qM zM)) → va_S (adr W9) s.heap H locs → lv_has ls 10 [(0, .ref (qM 0)), (1, .int a1), (2, .int a2), (3, .int a3)] → f_X7_times zM a1 a2 a3 = some res → W p l e rm_X7_times s m args below meth c H locs 0 0 (MQ below (qWi G W9 ((wMd cA qM res.2)) res.1) args s 0 0 (adr W9)) (F0 m 0 ls []) := by
  obtain ⟨hx, hb, hr, hml, hown, hts, hlocks, hK, hR, hRA⟩ := id C0
  intro zM a1 a2 a3 H locs ls hP hD hS hl hf
  unfold f_X7_times at hf
  refine lv_iload_n hx hb dX7_times_0 rfl (lv_at hl 1 rfl) ?_
  obtain ⟨r_1, hr_1, hf⟩ := obd hf
  refine cRiS (As := [.int a1]) (rest := []) ⟨hx, hb, hml, hown, hts⟩ (m_X7_isSlot l G cA a1 r_1 hr_1) (cw_X7_isSlot hts wi_735 ⟨Nat.le_of_ble_eq_true rfl, Nat.le_of_ble_eq_true rfl⟩) hK va_Pnil rfl hl.1 rfl (Nat.le_of_ble_eq_true rfl) dX7_times_1 ⟨Nat.zero_le _, Nat.zero_le _⟩ ?_
  refine lv_if_eq (tgt := 25) hx hb dX7_times_4 (by decide) (fun c_2 => ?_) (fun c_2 => ?_)
  · rw [if_pos (c_2)] at hf
    exact b_X7_times_25 qM   C0  zM a1 a2 a3 H locs ls hP hD hS (lv_sub hl [0, 1, 2, 3] rfl) hf
  · rw [if_neg (c_2)] at hf
    refine lv_iload_n hx hb dX7_times_7 rfl (lv_at hl 2 rfl) ?_
    obtain ⟨r_3, hr_3, hf⟩ := obd hf
    refine cRiS (As := [.int a2]) (rest := []) ⟨hx, hb, hml, hown, hts⟩ (m_X7_isSlot l G cA a2 r_3 hr_3) (cw_X7_isSlot hts wi_735 ⟨Nat.le_of_ble_eq_true rfl, Nat.le_of_ble_eq_true rfl⟩) hK va_Pnil rfl hl.1 rfl (Nat.le_of_ble_eq_true rfl) dX7_times_8 ⟨Nat.zero_le _, Nat.zero_le _⟩ ?_
    refine lv_if_eq (tgt := 25) hx hb dX7_times_11 (by decide) (fun c_4 => ?_) (fun c_4 => ?_)
    · rw [if_pos (c_4)] at hf
      exact b_X7_times_25 qM   C0  zM a1 a2 a3 H locs ls hP hD hS (lv_sub hl [0, 1, 2, 3] rfl) hf
    · rw [if_neg (c_4)] at hf
      refine lv_iload_n hx hb dX7_times_14 rfl (lv_at hl 3 rfl) ?_
      obtain ⟨r_5, hr_5, hf⟩ := obd hf
      refine cRiS (As := [.int a3]) (rest := []) ⟨hx, hb, hml, hown, hts⟩ (m_X7_isSlot l G cA a3 r_5 hr_5) (cw_X7_isSlot hts wi_735 ⟨Nat.le_of_ble_eq_true rfl, Nat.le_of_ble_eq_true rfl⟩) hK va_Pnil rfl hl.1 rfl (Nat.le_of_ble_eq_true rfl) dX7_times_15 ⟨Nat.zero_le _, Nat.zero_le _⟩ ?_
      refine lv_if_eq (tgt := 25) hx hb dX7_times_18 (by decide) (fun c_6 => ?_) (fun c_6 => ?_)
      · rw [if_pos (c_6)] at hf
        exact b_X7_times_25 qM   C0  zM a1 a2 a3 H locs ls hP hD hS (lv_sub hl [0, 1, 2, 3] rfl) hf
      · rw [if_neg (c_6)] at hf
        refine lv_iconst (v := 1) hx hb dX7_times_21 (by decide) ?_
        refine lv_goto (tgt := 26) hx hb dX7_times_22 (by decide) ?_
        exact b_X7_times_26 qM   C0  zM a1 a2 a3 (1 : Int32) H locs ls hP hD hS (lv_sub hl [0, 1, 2, 3] rfl) hf

set_option maxRecDepth 100000 in
theorem m_X7_times (l : Launch) (G : va_G) (cA : Nat → ClassId) (qM : Nat → Nat) (zM : MdS) (a1 : Int32) (a2 : Int32) (a3 : Int32) (res : Int32 × MdS) (hf : f_X7_times zM a1 a2 a3 = some res) : MWi l yX7_times (.code yX7_times cX7_times 10 (some .int) :: wd) rm_X7_times G cA [.ref (qM 0), .int a1, .int a2, .int a3] ((wMd cA qM zM)) [] ((wMd cA qM res.2)) res.1 := by
  refine Met.ofW (cc := cX7_times) (maxL := 10) (ret := (some .int)) (by decide) rfl ?_
  intro p e s m args below meth c s₁ B hml hv
  obtain ⟨rfl, hK, hP, hD0, hR, hRA⟩ := hv
  have C0 : Amb p s m ([.ref (qM 0), .int a1, .int a2, .int a3] : List Value).toArray meth c cX7_times RX7 10 (some .int) G cA (adr ((wMd cA qM zM))) [] := ⟨B.exec, B.bytes, B.returns, hml, findClass_of_methodNamed B.named, fun w h => atoms_spec (ws := (.code yX7_times cX7_times 10 (some .int) :: wd)) B.pre w (List.mem_cons_of_mem _ h), B.notSynchronized, hK, hR, hRA⟩
  have hl := lv_entry ([.ref (qM 0), .int a1, .int a2, .int a3]) (n := 10) (Nat.le_of_ble_eq_true rfl)
  rw [lg_entry_eq]
  generalize (lg_sl ([.ref (qM 0), .int a1, .int a2, .int a3]) ++ List.replicate (10 - (lg_sl ([.ref (qM 0), .int a1, .int a2, .int a3])).length) Slot.unset).toArray = ls at hl ⊢
  have hl : lv_has ls 10 [(0, .ref (qM 0)), (1, .int a1), (2, .int a2), (3, .int a3)] := hl
  exact b_X7_times_0 (W9 := ((wMd cA qM zM))) qM   C0 zM a1 a2 a3 s.heap [] ls hP (adr.self hD0) va_S.rf hl hf
theorem cw_X7_times {R : Room} {s : State} {args : Array Value} {own : String} {index : Nat} (ht : ∀ w ∈ wd, w.before args s = true) (hlink : Cond.methodLink own index yX7_times ∈ wd) (hR : rm_X7_times.frames + 1 ≤ R.frames ∧ 8 + (10 + 11) + rm_X7_times.locals ≤ R.locals) : CallW R s args own RX7 index yX7_times cX7_times 10 (some .int) (.code yX7_times cX7_times 10 (some .int) :: wd) rm_X7_times 0 0 3 := cwV9 3 ht wi_857 wi_855 wi_856 wi_60 hlink (by decide +kernel) rfl rfl hR
