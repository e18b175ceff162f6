def rm_X7_integrateLog : Room := { frames := 3, cells := 0, slots := 0, locals := 99 }
def f_X7_integrateLog_22  : Nat → MdS → Int32 → Int32 → Option (MdS)
  | 0, _, _, _ => none
  | fu + 1, zM, x2, x3 => if x3 < 0 then some zM else if (gM_top zM) = (0 : Int64) then some zM else (f_X7_lay zM (1 : Int32) x3 (x2 + (1 : Int32)) (1 : Int64) (x2.toInt64 + (1 : Int64))).bind fun r_3 => (f_X7_scale r_3 ((-x3).toInt64) (x2.toInt64 + (1 : Int64))).bind fun r_4 => f_X7_integrateLog_22  fu r_4 x2 (x3 + (-1))
set_option maxHeartbeats 4000000 in
set_option maxRecDepth 100000 in
theorem b_X7_integrateLog_22 {p : Program} {l : Launch} {e : Env} {s : State} {m : MethodId} {args : Array Value} {below : List Frame} {meth : Method} {c : Code} {G : va_G} {cA : Nat → ClassId} {W9 : va_W} (qM : Nat → Nat) (C0 : Amb p s m args meth c cX7_integrateLog RX7 4 none G cA (adr W9) []) {res : MdS} : ∀ (fu : Nat) (zM : MdS) (x2 : Int32) (x3 : Int32) (H : Heap) (locs : List Loc) (ls : Array Slot), va_P G vwCl ((wMd cA qM zM)) H → va_D (adr W9) ((wMd cA qM zM)) → va_S (adr W9) s.heap H locs → lv_has ls 4 [(0, .ref (qM 0)), (2, .int x2), (3, .int x3)] → f_X7_integrateLog_22 fu zM x2 x3 = some res → W p l e rm_X7_integrateLog s m args below meth c H locs 0 0 (MQ below (qWv G W9 ((wMd cA qM res))) args s 0 0 (adr W9)) (F0 m 22 ls []) := by
  obtain ⟨hx, hb, hr, hml, hown, hts, hlocks, hK, hR, hRA⟩ := id C0
  intro fu
  induction fu with
  | zero =>
    intro zM x2 x3 H locs ls hP hD hS hl hf
    rw [f_X7_integrateLog_22] at hf
    cases hf
  | succ fu ih =>
    intro zM x2 x3 H locs ls hP hD hS hl hf
    rw [f_X7_integrateLog_22] at hf
    refine lv_iload_n hx hb dX7_integrateLog_22 rfl (lv_at hl 2 rfl) ?_
    refine lv_if_lt (tgt := 66) hx hb dX7_integrateLog_23 (by decide) (fun c_1 => ?_) (fun c_1 => ?_)
    · rw [if_pos (c_1)] at hf
      cases hf
      exact W.vret hx hb hr (fun t ht hW => ⟨⟨(), rfl, trivial, toT ht hP⟩, hS.F ht⟩) hS.2.2 dX7_integrateLog_66 hlocks
    · rw [if_neg (c_1)] at hf
      refine lv_aload_n hx hb dX7_integrateLog_26 rfl (lv_at hl 0 rfl) ?_
      refine va_get (D := G) (ci := 5) (v := .long (gM_top zM)) (C := RX7) (T := TX7) (N := 13) hx hb hts fin_X7 hown hK.1 hP 0 rfl rfl 11 (by decide) (hts _ wi_682) (fun _ h9 => h9) rfl dX7_integrateLog_27 ?_
      refine lv_lconst (v := (0 : Int64)) hx hb dX7_integrateLog_30 (by decide) ?_
      refine W.lcmp hx hb dX7_integrateLog_31 ?_
      refine lv_if_eq (tgt := 66) hx hb dX7_integrateLog_32 (by decide) (fun c_2 => ?_) (fun c_2 => ?_)
      · rw [if_pos ((lg_cmp_eq _ _).mp c_2)] at hf
        cases hf
        exact W.vret hx hb hr (fun t ht hW => ⟨⟨(), rfl, trivial, toT ht hP⟩, hS.F ht⟩) hS.2.2 dX7_integrateLog_66 hlocks
      · rw [if_neg (fun h => c_2 ((lg_cmp_eq _ _).mpr h))] at hf
        refine lv_aload_n hx hb dX7_integrateLog_35 rfl (lv_at hl 0 rfl) ?_
        refine lv_iconst (v := 1) hx hb dX7_integrateLog_36 (by decide) ?_
        refine lv_iload_n hx hb dX7_integrateLog_37 rfl (lv_at hl 2 rfl) ?_
        refine lv_iload_n hx hb dX7_integrateLog_38 rfl (lv_at hl 1 rfl) ?_
        refine lv_iconst (v := 1) hx hb dX7_integrateLog_39 (by decide) ?_
        refine lv_iadd hx hb dX7_integrateLog_40 ?_
        refine lv_lconst (v := (1 : Int64)) hx hb dX7_integrateLog_41 (by decide) ?_
        refine lv_iload_n hx hb dX7_integrateLog_42 rfl (lv_at hl 1 rfl) ?_
        refine lv_i2l (v := x2.toInt64) hx hb dX7_integrateLog_43 rfl ?_
        refine lv_lconst (v := (1 : Int64)) hx hb dX7_integrateLog_44 (by decide) ?_
        refine lv_ladd hx hb dX7_integrateLog_45 ?_
        obtain ⟨r_3, hr_3, hf⟩ := obd hf
        refine cWvV (As := [.int (1 : Int32), .int x3, .int (x2 + (1 : Int32)), .long (1 : Int64), .long (x2.toInt64 + (1 : Int64))]) (rest := []) (W1 := ((wMd cA qM r_3))) ⟨hx, hb, hml, hown, hts⟩ (m_X7_lay l G cA qM zM (1 : Int32) x3 (x2 + (1 : Int32)) (1 : Int64) (x2.toInt64 + (1 : Int64)) r_3 hr_3) (cw_X7_lay hts wi_878 ⟨Nat.le_of_ble_eq_true rfl, Nat.le_of_ble_eq_true rfl⟩) hK hP hD hS [0, 1, 2, 3, 4] [5, 6, 7, 8, 9] rfl rfl rfl (by decide) rfl va_Pnil dj_nil (va_recv hK.1 hP (ci := 5) (q0 := 0) rfl rfl) rfl hl.1 rfl (Nat.le_of_ble_eq_true rfl) dX7_integrateLog_46 ⟨Nat.zero_le _, Nat.zero_le _⟩ (fun H locs hP hD hS => ?_)
        refine lv_aload_n hx hb dX7_integrateLog_49 rfl (lv_at hl 0 rfl) ?_
        refine lv_iload_n hx hb dX7_integrateLog_50 rfl (lv_at hl 2 rfl) ?_
        refine lv_ineg hx hb dX7_integrateLog_51 ?_
        refine lv_i2l (v := (-x3).toInt64) hx hb dX7_integrateLog_52 rfl ?_
        refine lv_iload_n hx hb dX7_integrateLog_53 rfl (lv_at hl 1 rfl) ?_
        refine lv_i2l (v := x2.toInt64) hx hb dX7_integrateLog_54 rfl ?_
        refine lv_lconst (v := (1 : Int64)) hx hb dX7_integrateLog_55 (by decide) ?_
        refine lv_ladd hx hb dX7_integrateLog_56 ?_
        obtain ⟨r_4, hr_4, hf⟩ := obd hf
        refine cWvV (As := [.long ((-x3).toInt64), .long (x2.toInt64 + (1 : Int64))]) (rest := []) (W1 := ((wMd cA qM r_4))) ⟨hx, hb, hml, hown, hts⟩ (m_X7_scale l G cA qM r_3 ((-x3).toInt64) (x2.toInt64 + (1 : Int64)) r_4 hr_4) (cw_X7_scale hts wi_882 ⟨Nat.le_of_ble_eq_true rfl, Nat.le_of_ble_eq_true rfl⟩) hK hP hD hS [0, 1, 2, 3, 4] [5, 6, 7, 8, 9] rfl rfl rfl (by decide) rfl va_Pnil dj_nil (va_recv hK.1 hP (ci := 5) (q0 := 0) rfl rfl) rfl hl.1 rfl (Nat.le_of_ble_eq_true rfl) dX7_integrateLog_57 ⟨Nat.zero_le _, Nat.zero_le _⟩ (fun H locs hP hD hS => ?_)
        refine lv_iinc (v := (x3 + (-1))) (lv' := [(3, .int (x3 + (-1))), (0, .ref (qM 0)), (2, .int x2)]) hx hb dX7_integrateLog_60 hl (k := 2) rfl rfl (by decide) rfl (fun ls hl => ?_)
        refine lv_goto (tgt := 22) hx hb dX7_integrateLog_63 (by decide) ?_
        exact ih r_4 x2 (x3 + (-1)) H locs ls hP hD hS (lv_sub hl [1, 2, 0] rfl) hf
def f_X7_integrateLog (zM : MdS) (a1 : Int32) (a2 : Int32) : Option (MdS) := if ¬ a2 = (-1 : Int32) then f_X7_integrateLog_22 fuel zM a2 a1 else (f_X7_lay zM (1 : Int32) (a1 + (1 : Int32)) (0 : Int32) (1 : Int64) (a1.toInt64 + (1 : Int64))).bind fun r_2 => some r_2
set_option maxHeartbeats 4000000 in
set_option maxRecDepth 100000 in
theorem b_X7_integrateLog_0 {p : Program} {l : Launch} {e : Env} {s : State} {m : MethodId} {args : Array Value} {below : List Frame} {meth : Method} {c : Code} {G : va_G} {cA : Nat → ClassId} {W9 : va_W} (qM : Nat → Nat) (C0 : Amb p s m args meth c cX7_integrateLog RX7 4 none G cA (adr W9) []) {res : MdS} : ∀ (zM : MdS) (a1 : Int32) (a2 : Int32) (H : Heap) (locs : List Loc) (ls : Array Slot), va_P G vwCl ((wMd cA qM zM)) H → va_D (adr W9) ((wMd cA qM zM)) → va_S (adr W9) s.heap H locs → lv_has ls 4 [(0, .ref (qM 0)), (1, .int a1), (2, .int a2)] → f_X7_integrateLog zM a1 a2 = some res → W p l e rm_X7_integrateLog s m args below meth c H locs 0 0 (MQ below (qWv G W9 ((wMd cA qM res))) args s 0 0 (adr W9)) (F0 m 0 ls []) := by
  obtain ⟨hx, hb, hr, hml, hown, hts, hlocks, hK, hR, hRA⟩ := id C0
  intro zM a1 a2 H locs ls hP hD hS hl hf
  unfold f_X7_integrateLog at hf
  refine lv_iload_n hx hb dX7_integrateLog_0 rfl (lv_at hl 1 rfl) ?_
  refine lv_istore_n (lv' := [(3, .int a1), (0, .ref (qM 0)), (1, .int a1), (2, .int a2)]) hx hb dX7_integrateLog_1 rfl hl (by decide) rfl (fun ls hl => ?_)
  refine lv_iload_n hx hb dX7_integrateLog_2 rfl (lv_at hl 3 rfl) ?_
  refine lv_iconst (v := (-1)) hx hb dX7_integrateLog_3 (by decide) ?_
  refine lv_icmp_ne (tgt := 22) hx hb dX7_integrateLog_4 (by decide) (fun c_1 => ?_) (fun c_1 => ?_)
  · rw [if_pos (c_1)] at hf
    exact b_X7_integrateLog_22 qM   C0  fuel zM a2 a1 H locs ls hP hD hS (lv_sub hl [1, 3, 0] rfl) hf
  · rw [if_neg (not_not_intro c_1)] at hf
    refine lv_aload_n hx hb dX7_integrateLog_7 rfl (lv_at hl 1 rfl) ?_
    refine lv_iconst (v := 1) hx hb dX7_integrateLog_8 (by decide) ?_
    refine lv_iload_n hx hb dX7_integrateLog_9 rfl (lv_at hl 0 rfl) ?_
    refine lv_iconst (v := 1) hx hb dX7_integrateLog_10 (by decide) ?_
    refine lv_iadd hx hb dX7_integrateLog_11 ?_
    refine lv_iconst (v := 0) hx hb dX7_integrateLog_12 (by decide) ?_
    refine lv_lconst (v := (1 : Int64)) hx hb dX7_integrateLog_13 (by decide) ?_
    refine lv_iload_n hx hb dX7_integrateLog_14 rfl (lv_at hl 0 rfl) ?_
    refine lv_i2l (v := a1.toInt64) hx hb dX7_integrateLog_15 rfl ?_
    refine lv_lconst (v := (1 : Int64)) hx hb dX7_integrateLog_16 (by decide) ?_
    refine lv_ladd hx hb dX7_integrateLog_17 ?_
    obtain ⟨r_2, hr_2, hf⟩ := obd hf
    refine cWvV (As := [.int (1 : Int32), .int (a1 + (1 : Int32)), .int (0 : Int32), .long (1 : Int64), .long (a1.toInt64 + (1 : Int64))]) (rest := []) (W1 := ((wMd cA qM r_2))) ⟨hx, hb, hml, hown, hts⟩ (m_X7_lay l G cA qM zM (1 : Int32) (a1 + (1 : Int32)) (0 : Int32) (1 : Int64) (a1.toInt64 + (1 : Int64)) r_2 hr_2) (cw_X7_lay hts wi_878 ⟨Nat.le_of_ble_eq_true rfl, Nat.le_of_ble_eq_true rfl⟩) hK hP hD hS [0, 1, 2, 3, 4] [5, 6, 7, 8, 9] rfl rfl rfl (by decide) rfl va_Pnil dj_nil (va_recv hK.1 hP (ci := 5) (q0 := 0) rfl rfl) rfl hl.1 rfl (Nat.le_of_ble_eq_true rfl) dX7_integrateLog_18 ⟨Nat.zero_le _, Nat.zero_le _⟩ (fun H locs hP hD hS => ?_)
    cases hf
    exact W.vret hx hb hr (fun t ht hW => ⟨⟨(), rfl, trivial, toT ht hP⟩, hS.F ht⟩) hS.2.2 dX7_integrateLog_21 hlocks

set_option maxRecDepth 100000 in
theorem m_X7_integrateLog (l : Launch) (G : va_G) (cA : Nat → ClassId) (qM : Nat → Nat) (zM : MdS) (a1 : Int32) (a2 : Int32) (res : MdS) (hf : f_X7_integrateLog zM a1 a2 = some res) : MWv l yX7_integrateLog (.code yX7_integrateLog cX7_integrateLog 4 none :: wd) rm_X7_integrateLog G cA [.ref (qM 0), .int a1, .int a2] ((wMd cA qM zM)) [] ((wMd cA qM res)) := by
  refine Met.ofW (cc := cX7_integrateLog) (maxL := 4) (ret := none) (by decide) rfl ?_
  intro p e s m args below meth c s₁ B hml hv
  obtain ⟨rfl, hK, hP, hD0, hR, hRA⟩ := hv
  have C0 : Amb p s m ([.ref (qM 0), .int a1, .int a2] : List Value).toArray meth c cX7_integrateLog RX7 4 none G cA (adr ((wMd cA qM zM))) [] := ⟨B.exec, B.bytes, B.returns, hml, findClass_of_methodNamed B.named, fun w h => atoms_spec (ws := (.code yX7_integrateLog cX7_integrateLog 4 none :: wd)) B.pre w (List.mem_cons_of_mem _ h), B.notSynchronized, hK, hR, hRA⟩
  have hl := lv_entry ([.ref (qM 0), .int a1, .int a2]) (n := 4) (Nat.le_of_ble_eq_true rfl)
  rw [lg_entry_eq]
  generalize (lg_sl ([.ref (qM 0), .int a1, .int a2]) ++ List.replicate (4 - (lg_sl ([.ref (qM 0), .int a1, .int a2])).length) Slot.unset).toArray = ls at hl ⊢
  have hl : lv_has ls 4 [(0, .ref (qM 0)), (1, .int a1), (2, .int a2)] := hl
  exact b_X7_integrateLog_0 (W9 := ((wMd cA qM zM))) qM   C0 zM a1 a2 s.heap [] ls hP (adr.self hD0) va_S.rf hl hf
theorem cw_X7_integrateLog {R : Room} {s : State} {args : Array Value} {own : String} {index : Nat} (ht : ∀ w ∈ wd, w.before args s = true) (hlink : Cond.methodLink own index yX7_integrateLog ∈ wd) (hR : rm_X7_integrateLog.frames + 1 ≤ R.frames ∧ 8 + (4 + 11) + rm_X7_integrateLog.locals ≤ R.locals) : CallW R s args own RX7 index yX7_integrateLog cX7_integrateLog 4 none (.code yX7_integrateLog cX7_integrateLog 4 none :: wd) rm_X7_integrateLog 0 0 2 := cwV9 2 ht wi_877 wi_876 wi_50 wi_60 hlink (by decide +kernel) rfl rfl hR
def rm_X7_integrateOther : Room := { frames := 3, cells := 0, slots := 0, locals := 99 }
def f_X7_integrateOther_163 (kb_102 : MdS → Int32 → Int32 → Int32 → Int32 → Option (MdS)) (zM : MdS) (x2 : Int32) (x3 : Int32) (x5 : Int32) (v0 : Int32) : Option (MdS) := kb_102 zM x2 x3 v0 (x5 + 1)
set_option maxHeartbeats 4000000 in
set_option maxRecDepth 100000 in
theorem b_X7_integrateOther_163 {p : Program} {l : Launch} {e : Env} {s : State} {m : MethodId} {args : Array Value} {below : List Frame} {meth : Method} {c : Code} {G : va_G} {cA : Nat → ClassId} {W9 : va_W} (qM : Nat → Nat) (C0 : Amb p s m args meth c cX7_integrateOther RX7 6 none G cA (adr W9) []) {res : MdS} (kb_102 : MdS → Int32 → Int32 → Int32 → Int32 → Option (MdS)) (hkb_102 : ∀ (zM : MdS) (x2 : Int32) (x3 : Int32) (x4 : Int32) (x5 : Int32) (H : Heap) (locs : List Loc) (ls : Array Slot), va_P G vwCl ((wMd cA qM zM)) H → va_D (adr W9) ((wMd cA qM zM)) → va_S (adr W9) s.heap H locs → lv_has ls 6 [(0, .ref (qM 0)), (2, .int x2), (3, .int x3), (4, .int x4), (5, .int x5)] → kb_102 zM x2 x3 x4 x5 = some res → W p l e rm_X7_integrateOther s m args below meth c H locs 0 0 (MQ below (qWv G W9 ((wMd cA qM res))) args s 0 0 (adr W9)) (F0 m 102 ls [])) : ∀ (zM : MdS) (x2 : Int32) (x3 : Int32) (x5 : Int32) (v0 : Int32) (H : Heap) (locs : List Loc) (ls : Array Slot), va_P G vwCl ((wMd cA qM zM)) H → va_D (adr W9) ((wMd cA qM zM)) → va_S (adr W9) s.heap H locs → lv_has ls 6 [(0, .ref (qM 0)), (2, .int x2), (3, .int x3), (5, .int x5)] → f_X7_integrateOther_163 kb_102 zM x2 x3 x5 v0 = some res → W p l e rm_X7_integrateOther s m args below meth c H locs 0 0 (MQ below (qWv G W9 ((wMd cA qM res))) args s 0 0 (adr W9)) (F0 m 163 ls [.int v0]) := by
  obtain ⟨hx, hb, hr, hml, hown, hts, hlocks, hK, hR, hRA⟩ := id C0
  intro zM x2 x3 x5 v0 H locs ls hP hD hS hl hf
  unfold f_X7_integrateOther_163 at hf
  refine lv_istore (lv' := [(4, .int v0), (0, .ref (qM 0)), (2, .int x2), (3, .int x3), (5, .int x5)]) hx hb dX7_integrateOther_163 hl (by decide) rfl (fun ls hl => ?_)
  refine lv_iinc (v := (x5 + 1)) (lv' := [(5, .int (x5 + 1)), (4, .int v0), (0, .ref (qM 0)), (2, .int x2), (3, .int x3)]) hx hb dX7_integrateOther_165 hl (k := 4) rfl rfl (by decide) rfl (fun ls hl => ?_)
  refine lv_goto (tgt := 102) hx hb dX7_integrateOther_168 (by decide) ?_
  exact hkb_102 zM x2 x3 v0 (x5 + 1) H locs ls hP hD hS (lv_sub hl [2, 3, 4, 1, 0] rfl) hf
def f_X7_integrateOther_140 (kb_102 : MdS → Int32 → Int32 → Int32 → Int32 → Option (MdS)) (zM : MdS) (x2 : Int32) (x3 : Int32) (x4 : Int32) (x5 : Int32) (v1 : Int64) : Option (MdS) := (f_X7_scale zM v1 (x5.toInt64 + (1 : Int64))).bind fun r_1 => if ¬ x4 = (2 : Int32) then f_X7_integrateOther_163 kb_102 r_1 x2 x3 x5 ((7 : Int32) - x4) else f_X7_integrateOther_163 kb_102 r_1 x2 x3 x5 (2 : Int32)
set_option maxHeartbeats 4000000 in
set_option maxRecDepth 100000 in
theorem b_X7_integrateOther_140 {p : Program} {l : Launch} {e : Env} {s : State} {m : MethodId} {args : Array Value} {below : List Frame} {meth : Method} {c : Code} {G : va_G} {cA : Nat → ClassId} {W9 : va_W} (qM : Nat → Nat) (C0 : Amb p s m args meth c cX7_integrateOther RX7 6 none G cA (adr W9) []) {res : MdS} (kb_102 : MdS → Int32 → Int32 → Int32 → Int32 → Option (MdS)) (hkb_102 : ∀ (zM : MdS) (x2 : Int32) (x3 : Int32) (x4 : Int32) (x5 : Int32) (H : Heap) (locs : List Loc) (ls : Array Slot), va_P G vwCl ((wMd cA qM zM)) H → va_D (adr W9) ((wMd cA qM zM)) → va_S (adr W9) s.heap H locs → lv_has ls 6 [(0, .ref (qM 0)), (2, .int x2), (3, .int x3), (4, .int x4), (5, .int x5)] → kb_102 zM x2 x3 x4 x5 = some res → W p l e rm_X7_integrateOther s m args below meth c H locs 0 0 (MQ below (qWv G W9 ((wMd cA qM res))) args s 0 0 (adr W9)) (F0 m 102 ls [])) : ∀ (zM : MdS) (x2 : Int32) (x3 : Int32) (x4 : Int32) (x5 : Int32) (v1 : Int64) (H : Heap) (locs : List Loc) (ls : Array Slot), va_P G vwCl ((wMd cA qM zM)) H → va_D (adr W9) ((wMd cA qM zM)) → va_S (adr W9) s.heap H locs → lv_has ls 6 [(0, .ref (qM 0)), (2, .int x2), (3, .int x3), (4, .int x4), (5, .int x5)] → f_X7_integrateOther_140 kb_102 zM x2 x3 x4 x5 v1 = some res → W p l e rm_X7_integrateOther s m args below meth c H locs 0 0 (MQ below (qWv G W9 ((wMd cA qM res))) args s 0 0 (adr W9)) (F0 m 140 ls [.long v1, .ref (qM 0)]) := by
  obtain ⟨hx, hb, hr, hml, hown, hts, hlocks, hK, hR, hRA⟩ := id C0
  intro zM x2 x3 x4 x5 v1 H locs ls hP hD hS hl hf
  unfold f_X7_integrateOther_140 at hf
  refine lv_iload hx hb dX7_integrateOther_140 (lv_at hl 4 rfl) ?_
  refine lv_i2l (v := x5.toInt64) hx hb dX7_integrateOther_142 rfl ?_
  refine lv_lconst (v := (1 : Int64)) hx hb dX7_integrateOther_143 (by decide) ?_
  refine lv_ladd hx hb dX7_integrateOther_144 ?_
  obtain ⟨r_1, hr_1, hf⟩ := obd hf
  refine cWvV (As := [.long v1, .long (x5.toInt64 + (1 : Int64))]) (rest := []) (W1 := ((wMd cA qM r_1))) ⟨hx, hb, hml, hown, hts⟩ (m_X7_scale l G cA qM zM v1 (x5.toInt64 + (1 : Int64)) r_1 hr_1) (cw_X7_scale hts wi_882 ⟨Nat.le_of_ble_eq_true rfl, Nat.le_of_ble_eq_true rfl⟩) hK hP hD hS [0, 1, 2, 3, 4] [5, 6, 7, 8, 9] rfl rfl rfl (by decide) rfl va_Pnil dj_nil (va_recv hK.1 hP (ci := 5) (q0 := 0) rfl rfl) rfl hl.1 rfl (Nat.le_of_ble_eq_true rfl) dX7_integrateOther_145 ⟨Nat.zero_le _, Nat.zero_le _⟩ (fun H locs hP hD hS => ?_)
  refine lv_iload hx hb dX7_integrateOther_148 (lv_at hl 3 rfl) ?_
  refine lv_iconst (v := 2) hx hb dX7_integrateOther_150 (by decide) ?_
  refine lv_icmp_ne (tgt := 158) hx hb dX7_integrateOther_151 (by decide) (fun c_2 => ?_) (fun c_2 => ?_)
  · rw [if_pos (c_2)] at hf
    refine lv_bipush (v := (7 : Int32)) hx hb dX7_integrateOther_158 (by decide) ?_
    refine lv_iload hx hb dX7_integrateOther_160 (lv_at hl 3 rfl) ?_
    refine lv_isub hx hb dX7_integrateOther_162 ?_
    exact b_X7_integrateOther_163 qM   C0 kb_102 hkb_102 r_1 x2 x3 x5 ((7 : Int32) - x4) H locs ls hP hD hS (lv_sub hl [0, 1, 2, 4] rfl) hf
  · rw [if_neg (not_not_intro c_2)] at hf
    refine lv_iconst (v := 2) hx hb dX7_integrateOther_154 (by decide) ?_
    refine lv_goto (tgt := 163) hx hb dX7_integrateOther_155 (by decide) ?_
    exact b_X7_integrateOther_163 qM   C0 kb_102 hkb_102 r_1 x2 x3 x5 (2 : Int32) H locs ls hP hD hS (lv_sub hl [0, 1, 2, 4] rfl) hf
def f_X7_integrateOther_102  : Nat → MdS → Int32 → Int32 → Int32 → Int32 → Option (MdS)
  | 0, _, _, _, _, _ => none
  | fu + 1, zM, x2, x3, x4, x5 => if (-1 : Int32) ≤ x5 then if 0 ≤ x3 then some zM else (f_X7_addTerm zM (9 : Int32) x4 x2 (-1 : Int32) (gM_top zM) (gM_bottom zM)).bind fun r_3 => some r_3 else (f_X7_lay zM x4 x2 (x5 + (1 : Int32)) (1 : Int64) (x5.toInt64 + (1 : Int64))).bind fun r_4 => if ¬ x4 = (4 : Int32) then f_X7_integrateOther_140 (fun zM_ x2_ x3_ x4_ x5_ => f_X7_integrateOther_102  fu zM_ x2_ x3_ x4_ x5_) r_4 x2 x3 x4 x5 ((-x2).toInt64) else f_X7_integrateOther_140 (fun zM_ x2_ x3_ x4_ x5_ => f_X7_integrateOther_102  fu zM_ x2_ x3_ x4_ x5_) r_4 x2 x3 x4 x5 x2.toInt64
set_option maxHeartbeats 4000000 in
set_option maxRecDepth 100000 in
theorem b_X7_integrateOther_102 {p : Program} {l : Launch} {e : Env} {s : State} {m : MethodId} {args : Array Value} {below : List Frame} {meth : Method} {c : Code} {G : va_G} {cA : Nat → ClassId} {W9 : va_W} (qM : Nat → Nat) (C0 : Amb p s m args meth c cX7_integrateOther RX7 6 none G cA (adr W9) []) {res : MdS} : ∀ (fu : Nat) (zM : MdS) (x2 : Int32) (x3 : Int32) (x4 : Int32) (x5 : Int32) (H : Heap) (locs : List Loc) (ls : Array Slot), va_P G vwCl ((wMd cA qM zM)) H → va_D (adr W9) ((wMd cA qM zM)) → va_S (adr W9) s.heap H locs → lv_has ls 6 [(0, .ref (qM 0)), (2, .int x2), (3, .int x3), (4, .int x4), (5, .int x5)] → f_X7_integrateOther_102 fu zM x2 x3 x4 x5 = some res → W p l e rm_X7_integrateOther s m args below meth c H locs 0 0 (MQ below (qWv G W9 ((wMd cA qM res))) args s 0 0 (adr W9)) (F0 m 102 ls []) := by
  obtain ⟨hx, hb, hr, hml, hown, hts, hlocks, hK, hR, hRA⟩ := id C0
  intro fu
  induction fu with
  | zero =>
    intro zM x2 x3 x4 x5 H locs ls hP hD hS hl hf
    rw [f_X7_integrateOther_102] at hf
    cases hf
  | succ fu ih =>
    intro zM x2 x3 x4 x5 H locs ls hP hD hS hl hf
    rw [f_X7_integrateOther_102] at hf
    refine lv_iload hx hb dX7_integrateOther_102 (lv_at hl 4 rfl) ?_
    refine lv_iconst (v := (-1)) hx hb dX7_integrateOther_104 (by decide) ?_
    refine lv_icmp_ge (tgt := 171) hx hb dX7_integrateOther_105 (by decide) (fun c_1 => ?_) (fun c_1 => ?_)
    · rw [if_pos (c_1)] at hf
      refine lv_iload_n hx hb dX7_integrateOther_171 rfl (lv_at hl 2 rfl) ?_
      refine lv_if_ge (tgt := 193) hx hb dX7_integrateOther_172 (by decide) (fun c_2 => ?_) (fun c_2 => ?_)
      · rw [if_pos (c_2)] at hf
        cases hf
        exact W.vret hx hb hr (fun t ht hW => ⟨⟨(), rfl, trivial, toT ht hP⟩, hS.F ht⟩) hS.2.2 dX7_integrateOther_193 hlocks
      · rw [if_neg (c_2)] at hf
        refine lv_aload_n hx hb dX7_integrateOther_175 rfl (lv_at hl 0 rfl) ?_
        refine lv_bipush (v := (9 : Int32)) hx hb dX7_integrateOther_176 (by decide) ?_
        refine lv_iload hx hb dX7_integrateOther_178 (lv_at hl 3 rfl) ?_
        refine lv_iload_n hx hb dX7_integrateOther_180 rfl (lv_at hl 1 rfl) ?_
        refine lv_iconst (v := (-1)) hx hb dX7_integrateOther_181 (by decide) ?_
        refine lv_aload_n hx hb dX7_integrateOther_182 rfl (lv_at hl 0 rfl) ?_
        refine va_get (D := G) (ci := 5) (v := .long (gM_top zM)) (C := RX7) (T := TX7) (N := 13) hx hb hts fin_X7 hown hK.1 hP 0 rfl rfl 11 (by decide) (hts _ wi_682) (fun _ h9 => h9) rfl dX7_integrateOther_183 ?_
        refine lv_aload_n hx hb dX7_integrateOther_186 rfl (lv_at hl 0 rfl) ?_
        refine va_get (D := G) (ci := 5) (v := .long (gM_bottom zM)) (C := RX7) (T := TX7) (N := 13) hx hb hts fin_X7 hown hK.1 hP 0 rfl rfl 12 (by decide) (hts _ wi_683) (fun _ h9 => h9) rfl dX7_integrateOther_187 ?_
        obtain ⟨r_3, hr_3, hf⟩ := obd hf
        refine cWvV (As := [.int (9 : Int32), .int x4, .int x2, .int (-1 : Int32), .long (gM_top zM), .long (gM_bottom zM)]) (rest := []) (W1 := ((wMd cA qM r_3))) ⟨hx, hb, hml, hown, hts⟩ (m_X7_addTerm l G cA qM zM (9 : Int32) x4 x2 (-1 : Int32) (gM_top zM) (gM_bottom zM) r_3 hr_3) (cw_X7_addTerm hts wi_772 ⟨Nat.le_of_ble_eq_true rfl, Nat.le_of_ble_eq_true rfl⟩) hK hP hD hS [0, 1, 2, 3, 4] [5, 6, 7, 8, 9] rfl rfl rfl (by decide) rfl va_Pnil dj_nil (va_recv hK.1 hP (ci := 5) (q0 := 0) rfl rfl) rfl hl.1 rfl (Nat.le_of_ble_eq_true rfl) dX7_integrateOther_190 ⟨Nat.zero_le _, Nat.zero_le _⟩ (fun H locs hP hD hS => ?_)
        cases hf
        exact W.vret hx hb hr (fun t ht hW => ⟨⟨(), rfl, trivial, toT ht hP⟩, hS.F ht⟩) hS.2.2 dX7_integrateOther_193 hlocks
    · rw [if_neg (c_1)] at hf
      refine lv_aload_n hx hb dX7_integrateOther_108 rfl (lv_at hl 0 rfl) ?_
      refine lv_iload hx hb dX7_integrateOther_109 (lv_at hl 3 rfl) ?_
      refine lv_iload_n hx hb dX7_integrateOther_111 rfl (lv_at hl 1 rfl) ?_
      refine lv_iload hx hb dX7_integrateOther_112 (lv_at hl 4 rfl) ?_
      refine lv_iconst (v := 1) hx hb dX7_integrateOther_114 (by decide) ?_
      refine lv_iadd hx hb dX7_integrateOther_115 ?_
      refine lv_lconst (v := (1 : Int64)) hx hb dX7_integrateOther_116 (by decide) ?_
      refine lv_iload hx hb dX7_integrateOther_117 (lv_at hl 4 rfl) ?_
      refine lv_i2l (v := x5.toInt64) hx hb dX7_integrateOther_119 rfl ?_
      refine lv_lconst (v := (1 : Int64)) hx hb dX7_integrateOther_120 (by decide) ?_
      refine lv_ladd hx hb dX7_integrateOther_121 ?_
      obtain ⟨r_4, hr_4, hf⟩ := obd hf
      refine cWvV (As := [.int x4, .int x2, .int (x5 + (1 : Int32)), .long (1 : Int64), .long (x5.toInt64 + (1 : Int64))]) (rest := []) (W1 := ((wMd cA qM r_4))) ⟨hx, hb, hml, hown, hts⟩ (m_X7_lay l G cA qM zM x4 x2 (x5 + (1 : Int32)) (1 : Int64) (x5.toInt64 + (1 : Int64)) r_4 hr_4) (cw_X7_lay hts wi_878 ⟨Nat.le_of_ble_eq_true rfl, Nat.le_of_ble_eq_true rfl⟩) hK hP hD hS [0, 1, 2, 3, 4] [5, 6, 7, 8, 9] rfl rfl rfl (by decide) rfl va_Pnil dj_nil (va_recv hK.1 hP (ci := 5) (q0 := 0) rfl rfl) rfl hl.1 rfl (Nat.le_of_ble_eq_true rfl) dX7_integrateOther_122 ⟨Nat.zero_le _, Nat.zero_le _⟩ (fun H locs hP hD hS => ?_)
      refine lv_aload_n hx hb dX7_integrateOther_125 rfl (lv_at hl 0 rfl) ?_
      refine lv_iload hx hb dX7_integrateOther_126 (lv_at hl 3 rfl) ?_
      refine lv_iconst (v := 4) hx hb dX7_integrateOther_128 (by decide) ?_
      refine lv_icmp_ne (tgt := 137) hx hb dX7_integrateOther_129 (by decide) (fun c_5 => ?_) (fun c_5 => ?_)
      · rw [if_pos (c_5)] at hf
        refine lv_iload_n hx hb dX7_integrateOther_137 rfl (lv_at hl 1 rfl) ?_
        refine lv_ineg hx hb dX7_integrateOther_138 ?_
        refine lv_i2l (v := (-x2).toInt64) hx hb dX7_integrateOther_139 rfl ?_
        exact b_X7_integrateOther_140 qM   C0 (fun zM_ x2_ x3_ x4_ x5_ => f_X7_integrateOther_102  fu zM_ x2_ x3_ x4_ x5_) ih r_4 x2 x3 x4 x5 ((-x2).toInt64) H locs ls hP hD hS (lv_sub hl [0, 1, 2, 3, 4] rfl) hf
      · rw [if_neg (not_not_intro c_5)] at hf
        refine lv_iload_n hx hb dX7_integrateOther_132 rfl (lv_at hl 1 rfl) ?_
        refine lv_i2l (v := x2.toInt64) hx hb dX7_integrateOther_133 rfl ?_
        refine lv_goto (tgt := 140) hx hb dX7_integrateOther_134 (by decide) ?_
        exact b_X7_integrateOther_140 qM   C0 (fun zM_ x2_ x3_ x4_ x5_ => f_X7_integrateOther_102  fu zM_ x2_ x3_ x4_ x5_) ih r_4 x2 x3 x4 x5 x2.toInt64 H locs ls hP hD hS (lv_sub hl [0, 1, 2, 3, 4] rfl) hf
def f_X7_integrateOther_94 (kb_6 : MdS → Int32 → Int32 → Int32 → Int32 → Option (MdS)) (zM : MdS) (x2 : Int32) (x3 : Int32) (x5 : Int32) (v0 : Int32) : Option (MdS) := kb_6 zM x2 x3 v0 (x5 + (-1))
set_option maxHeartbeats 4000000 in
set_option maxRecDepth 100000 in
theorem b_X7_integrateOther_94 {p : Program} {l : Launch} {e : Env} {s : State} {m : MethodId} {args : Array Value} {below : List Frame} {meth : Method} {c : Code} {G : va_G} {cA : Nat → ClassId} {W9 : va_W} (qM : Nat → Nat) (C0 : Amb p s m args meth c cX7_integrateOther RX7 6 none G cA (adr W9) []) {res : MdS} (kb_6 : MdS → Int32 → Int32 → Int32 → Int32 → Option (MdS)) (hkb_6 : ∀ (zM : MdS) (x2 : Int32) (x3 : Int32) (x4 : Int32) (x5 : Int32) (H : Heap) (locs : List Loc) (ls : Array Slot), va_P G vwCl ((wMd cA qM zM)) H → va_D (adr W9) ((wMd cA qM zM)) → va_S (adr W9) s.heap H locs → lv_has ls 6 [(0, .ref (qM 0)), (2, .int x2), (3, .int x3), (4, .int x4), (5, .int x5)] → kb_6 zM x2 x3 x4 x5 = some res → W p l e rm_X7_integrateOther s m args below meth c H locs 0 0 (MQ below (qWv G W9 ((wMd cA qM res))) args s 0 0 (adr W9)) (F0 m 6 ls [])) : ∀ (zM : MdS) (x2 : Int32) (x3 : Int32) (x5 : Int32) (v0 : Int32) (H : Heap) (locs : List Loc) (ls : Array Slot), va_P G vwCl ((wMd cA qM zM)) H → va_D (adr W9) ((wMd cA qM zM)) → va_S (adr W9) s.heap H locs → lv_has ls 6 [(0, .ref (qM 0)), (2, .int x2), (3, .int x3), (5, .int x5)] → f_X7_integrateOther_94 kb_6 zM x2 x3 x5 v0 = some res → W p l e rm_X7_integrateOther s m args below meth c H locs 0 0 (MQ below (qWv G W9 ((wMd cA qM res))) args s 0 0 (adr W9)) (F0 m 94 ls [.int v0]) := by
  obtain ⟨hx, hb, hr, hml, hown, hts, hlocks, hK, hR, hRA⟩ := id C0
  intro zM x2 x3 x5 v0 H locs ls hP hD hS hl hf
  unfold f_X7_integrateOther_94 at hf
  refine lv_istore (lv' := [(4, .int v0), (0, .ref (qM 0)), (2, .int x2), (3, .int x3), (5, .int x5)]) hx hb dX7_integrateOther_94 hl (by decide) rfl (fun ls hl => ?_)
  refine lv_iinc (v := (x5 + (-1))) (lv' := [(5, .int (x5 + (-1))), (4, .int v0), (0, .ref (qM 0)), (2, .int x2), (3, .int x3)]) hx hb dX7_integrateOther_96 hl (k := 4) rfl rfl (by decide) rfl (fun ls hl => ?_)
  refine lv_goto (tgt := 6) hx hb dX7_integrateOther_99 (by decide) ?_
  exact hkb_6 zM x2 x3 v0 (x5 + (-1)) H locs ls hP hD hS (lv_sub hl [2, 3, 4, 1, 0] rfl) hf
def f_X7_integrateOther_74 (kb_6 : MdS → Int32 → Int32 → Int32 → Int32 → Option (MdS)) (zM : MdS) (x2 : Int32) (x3 : Int32) (x4 : Int32) (x5 : Int32) (v1 : Int64) : Option (MdS) := (f_X7_scale zM v1 x2.toInt64).bind fun r_1 => if ¬ x4 = (2 : Int32) then f_X7_integrateOther_94 kb_6 r_1 x2 x3 x5 ((7 : Int32) - x4) else f_X7_integrateOther_94 kb_6 r_1 x2 x3 x5 (2 : Int32)
set_option maxHeartbeats 4000000 in
set_option maxRecDepth 100000 in
theorem b_X7_integrateOther_74 {p : Program} {l : Launch} {e : Env} {s : State} {m : MethodId} {args : Array Value} {below : List Frame} {meth : Method} {c : Code} {G : va_G} {cA : Nat → ClassId} {W9 : va_W} (qM : Nat → Nat) (C0 : Amb p s m args meth c cX7_integrateOther RX7 6 none G cA (adr W9) []) {res : MdS} (kb_6 : MdS → Int32 → Int32 → Int32 → Int32 → Option (MdS)) (hkb_6 : ∀ (zM : MdS) (x2 : Int32) (x3 : Int32) (x4 : Int32) (x5 : Int32) (H : Heap) (locs : List Loc) (ls : Array Slot), va_P G vwCl ((wMd cA qM zM)) H → va_D (adr W9) ((wMd cA qM zM)) → va_S (adr W9) s.heap H locs → lv_has ls 6 [(0, .ref (qM 0)), (2, .int x2), (3, .int x3), (4, .int x4), (5, .int x5)] → kb_6 zM x2 x3 x4 x5 = some res → W p l e rm_X7_integrateOther s m args below meth c H locs 0 0 (MQ below (qWv G W9 ((wMd cA qM res))) args s 0 0 (adr W9)) (F0 m 6 ls [])) : ∀ (zM : MdS) (x2 : Int32) (x3 : Int32) (x4 : Int32) (x5 : Int32) (v1 : Int64) (H : Heap) (locs : List Loc) (ls : Array Slot), va_P G vwCl ((wMd cA qM zM)) H → va_D (adr W9) ((wMd cA qM zM)) → va_S (adr W9) s.heap H locs → lv_has ls 6 [(0, .ref (qM 0)), (2, .int x2), (3, .int x3), (4, .int x4), (5, .int x5)] → f_X7_integrateOther_74 kb_6 zM x2 x3 x4 x5 v1 = some res → W p l e rm_X7_integrateOther s m args below meth c H locs 0 0 (MQ below (qWv G W9 ((wMd cA qM res))) args s 0 0 (adr W9)) (F0 m 74 ls [.long v1, .ref (qM 0)]) := by
  obtain ⟨hx, hb, hr, hml, hown, hts, hlocks, hK, hR, hRA⟩ := id C0
  intro zM x2 x3 x4 x5 v1 H locs ls hP hD hS hl hf
  unfold f_X7_integrateOther_74 at hf
  refine lv_iload_n hx hb dX7_integrateOther_74 rfl (lv_at hl 1 rfl) ?_
  refine lv_i2l (v := x2.toInt64) hx hb dX7_integrateOther_75 rfl ?_
  obtain ⟨r_1, hr_1, hf⟩ := obd hf
  refine cWvV (As := [.long v1, .long x2.toInt64]) (rest := []) (W1 := ((wMd cA qM r_1))) ⟨hx, hb, hml, hown, hts⟩ (m_X7_scale l G cA qM zM v1 x2.toInt64 r_1 hr_1) (cw_X7_scale hts wi_882 ⟨Nat.le_of_ble_eq_true rfl, Nat.le_of_ble_eq_true rfl⟩) hK hP hD hS [0, 1, 2, 3, 4] [5, 6, 7, 8, 9] rfl rfl rfl (by decide) rfl va_Pnil dj_nil (va_recv hK.1 hP (ci := 5) (q0 := 0) rfl rfl) rfl hl.1 rfl (Nat.le_of_ble_eq_true rfl) dX7_integrateOther_76 ⟨Nat.zero_le _, Nat.zero_le _⟩ (fun H locs hP hD hS => ?_)
  refine lv_iload hx hb dX7_integrateOther_79 (lv_at hl 3 rfl) ?_
  refine lv_iconst (v := 2) hx hb dX7_integrateOther_81 (by decide) ?_
  refine lv_icmp_ne (tgt := 89) hx hb dX7_integrateOther_82 (by decide) (fun c_2 => ?_) (fun c_2 => ?_)
  · rw [if_pos (c_2)] at hf
    refine lv_bipush (v := (7 : Int32)) hx hb dX7_integrateOther_89 (by decide) ?_
    refine lv_iload hx hb dX7_integrateOther_91 (lv_at hl 3 rfl) ?_
    refine lv_isub hx hb dX7_integrateOther_93 ?_
    exact b_X7_integrateOther_94 qM   C0 kb_6 hkb_6 r_1 x2 x3 x5 ((7 : Int32) - x4) H locs ls hP hD hS (lv_sub hl [0, 1, 2, 4] rfl) hf
  · rw [if_neg (not_not_intro c_2)] at hf
    refine lv_iconst (v := 2) hx hb dX7_integrateOther_85 (by decide) ?_
    refine lv_goto (tgt := 94) hx hb dX7_integrateOther_86 (by decide) ?_
    exact b_X7_integrateOther_94 qM   C0 kb_6 hkb_6 r_1 x2 x3 x5 (2 : Int32) H locs ls hP hD hS (lv_sub hl [0, 1, 2, 4] rfl) hf
def f_X7_integrateOther_52 (kb_6 : MdS → Int32 → Int32 → Int32 → Int32 → Option (MdS)) (zM : MdS) (x2 : Int32) (x3 : Int32) (x4 : Int32) (x5 : Int32) (v1 : Int32) (v2 : Int32) (v3 : Int32) (v4 : Int64) : Option (MdS) := (f_X7_lay zM v1 v2 v3 v4 x2.toInt64).bind fun r_1 => if ¬ x4 = (3 : Int32) then f_X7_integrateOther_74 kb_6 r_1 x2 x3 x4 x5 ((-x5).toInt64) else f_X7_integrateOther_74 kb_6 r_1 x2 x3 x4 x5 x5.toInt64
set_option maxHeartbeats 4000000 in
set_option maxRecDepth 100000 in
theorem b_X7_integrateOther_52 {p : Program} {l : Launch} {e : Env} {s : State} {m : MethodId} {args : Array Value} {below : List Frame} {meth : Method} {c : Code} {G : va_G} {cA : Nat → ClassId} {W9 : va_W} (qM : Nat → Nat) (C0 : Amb p s m args meth c cX7_integrateOther RX7 6 none G cA (adr W9) []) {res : MdS} (kb_6 : MdS → Int32 → Int32 → Int32 → Int32 → Option (MdS)) (hkb_6 : ∀ (zM : MdS) (x2 : Int32) (x3 : Int32) (x4 : Int32) (x5 : Int32) (H : Heap) (locs : List Loc) (ls : Array Slot), va_P G vwCl ((wMd cA qM zM)) H → va_D (adr W9) ((wMd cA qM zM)) → va_S (adr W9) s.heap H locs → lv_has ls 6 [(0, .ref (qM 0)), (2, .int x2), (3, .int x3), (4, .int x4), (5, .int x5)] → kb_6 zM x2 x3 x4 x5 = some res → W p l e rm_X7_integrateOther s m args below meth c H locs 0 0 (MQ below (qWv G W9 ((wMd cA qM res))) args s 0 0 (adr W9)) (F0 m 6 ls [])) : ∀ (zM : MdS) (x2 : Int32) (x3 : Int32) (x4 : Int32) (x5 : Int32) (v1 : Int32) (v2 : Int32) (v3 : Int32) (v4 : Int64) (H : Heap) (locs : List Loc) (ls : Array Slot), va_P G vwCl ((wMd cA qM zM)) H → va_D (adr W9) ((wMd cA qM zM)) → va_S (adr W9) s.heap H locs → lv_has ls 6 [(0, .ref (qM 0)), (2, .int x2), (3, .int x3), (4, .int x4), (5, .int x5)] → f_X7_integrateOther_52 kb_6 zM x2 x3 x4 x5 v1 v2 v3 v4 = some res → W p l e rm_X7_integrateOther s m args below meth c H locs 0 0 (MQ below (qWv G W9 ((wMd cA qM res))) args s 0 0 (adr W9)) (F0 m 52 ls [.long v4, .int v3, .int v2, .int v1, .ref (qM 0)]) := by
  obtain ⟨hx, hb, hr, hml, hown, hts, hlocks, hK, hR, hRA⟩ := id C0
  intro zM x2 x3 x4 x5 v1 v2 v3 v4 H locs ls hP hD hS hl hf
  unfold f_X7_integrateOther_52 at hf
  refine lv_iload_n hx hb dX7_integrateOther_52 rfl (lv_at hl 1 rfl) ?_
  refine lv_i2l (v := x2.toInt64) hx hb dX7_integrateOther_53 rfl ?_
  obtain ⟨r_1, hr_1, hf⟩ := obd hf
  refine cWvV (As := [.int v1, .int v2, .int v3, .long v4, .long x2.toInt64]) (rest := []) (W1 := ((wMd cA qM r_1))) ⟨hx, hb, hml, hown, hts⟩ (m_X7_lay l G cA qM zM v1 v2 v3 v4 x2.toInt64 r_1 hr_1) (cw_X7_lay hts wi_878 ⟨Nat.le_of_ble_eq_true rfl, Nat.le_of_ble_eq_true rfl⟩) hK hP hD hS [0, 1, 2, 3, 4] [5, 6, 7, 8, 9] rfl rfl rfl (by decide) rfl va_Pnil dj_nil (va_recv hK.1 hP (ci := 5) (q0 := 0) rfl rfl) rfl hl.1 rfl (Nat.le_of_ble_eq_true rfl) dX7_integrateOther_54 ⟨Nat.zero_le _, Nat.zero_le _⟩ (fun H locs hP hD hS => ?_)
  refine lv_aload_n hx hb dX7_integrateOther_57 rfl (lv_at hl 0 rfl) ?_
  refine lv_iload hx hb dX7_integrateOther_58 (lv_at hl 3 rfl) ?_
  refine lv_iconst (v := 3) hx hb dX7_integrateOther_60 (by decide) ?_
  refine lv_icmp_ne (tgt := 70) hx hb dX7_integrateOther_61 (by decide) (fun c_2 => ?_) (fun c_2 => ?_)
  · rw [if_pos (c_2)] at hf
    refine lv_iload hx hb dX7_integrateOther_70 (lv_at hl 4 rfl) ?_
    refine lv_ineg hx hb dX7_integrateOther_72 ?_
    refine lv_i2l (v := (-x5).toInt64) hx hb dX7_integrateOther_73 rfl ?_
    exact b_X7_integrateOther_74 qM   C0 kb_6 hkb_6 r_1 x2 x3 x4 x5 ((-x5).toInt64) H locs ls hP hD hS (lv_sub hl [0, 1, 2, 3, 4] rfl) hf
  · rw [if_neg (not_not_intro c_2)] at hf
    refine lv_iload hx hb dX7_integrateOther_64 (lv_at hl 4 rfl) ?_
    refine lv_i2l (v := x5.toInt64) hx hb dX7_integrateOther_66 rfl ?_
    refine lv_goto (tgt := 74) hx hb dX7_integrateOther_67 (by decide) ?_
    exact b_X7_integrateOther_74 qM   C0 kb_6 hkb_6 r_1 x2 x3 x4 x5 x5.toInt64 H locs ls hP hD hS (lv_sub hl [0, 1, 2, 3, 4] rfl) hf
def f_X7_integrateOther_36 (kb_6 : MdS → Int32 → Int32 → Int32 → Int32 → Option (MdS)) (zM : MdS) (x2 : Int32) (x3 : Int32) (x4 : Int32) (x5 : Int32) (v1 : Int32) : Option (MdS) := if ¬ x4 = (3 : Int32) then f_X7_integrateOther_52 kb_6 zM x2 x3 x4 x5 v1 x2 x5 (1 : Int64) else f_X7_integrateOther_52 kb_6 zM x2 x3 x4 x5 v1 x2 x5 (-1 : Int64)
set_option maxHeartbeats 4000000 in
set_option maxRecDepth 100000 in
theorem b_X7_integrateOther_36 {p : Program} {l : Launch} {e : Env} {s : State} {m : MethodId} {args : Array Value} {below : List Frame} {meth : Method} {c : Code} {G : va_G} {cA : Nat → ClassId} {W9 : va_W} (qM : Nat → Nat) (C0 : Amb p s m args meth c cX7_integrateOther RX7 6 none G cA (adr W9) []) {res : MdS} (kb_6 : MdS → Int32 → Int32 → Int32 → Int32 → Option (MdS)) (hkb_6 : ∀ (zM : MdS) (x2 : Int32) (x3 : Int32) (x4 : Int32) (x5 : Int32) (H : Heap) (locs : List Loc) (ls : Array Slot), va_P G vwCl ((wMd cA qM zM)) H → va_D (adr W9) ((wMd cA qM zM)) → va_S (adr W9) s.heap H locs → lv_has ls 6 [(0, .ref (qM 0)), (2, .int x2), (3, .int x3), (4, .int x4), (5, .int x5)] → kb_6 zM x2 x3 x4 x5 = some res → W p l e rm_X7_integrateOther s m args below meth c H locs 0 0 (MQ below (qWv G W9 ((wMd cA qM res))) args s 0 0 (adr W9)) (F0 m 6 ls [])) : ∀ (zM : MdS) (x2 : Int32) (x3 : Int32) (x4 : Int32) (x5 : Int32) (v1 : Int32) (H : Heap) (locs : List Loc) (ls : Array Slot), va_P G vwCl ((wMd cA qM zM)) H → va_D (adr W9) ((wMd cA qM zM)) → va_S (adr W9) s.heap H locs → lv_has ls 6 [(0, .ref (qM 0)), (2, .int x2), (3, .int x3), (4, .int x4), (5, .int x5)] → f_X7_integrateOther_36 kb_6 zM x2 x3 x4 x5 v1 = some res → W p l e rm_X7_integrateOther s m args below meth c H locs 0 0 (MQ below (qWv G W9 ((wMd cA qM res))) args s 0 0 (adr W9)) (F0 m 36 ls [.int v1, .ref (qM 0)]) := by
  obtain ⟨hx, hb, hr, hml, hown, hts, hlocks, hK, hR, hRA⟩ := id C0
  intro zM x2 x3 x4 x5 v1 H locs ls hP hD hS hl hf
  unfold f_X7_integrateOther_36 at hf
  refine lv_iload_n hx hb dX7_integrateOther_36 rfl (lv_at hl 1 rfl) ?_
  refine lv_iload hx hb dX7_integrateOther_37 (lv_at hl 4 rfl) ?_
  refine lv_iload hx hb dX7_integrateOther_39 (lv_at hl 3 rfl) ?_
  refine lv_iconst (v := 3) hx hb dX7_integrateOther_41 (by decide) ?_
  refine lv_icmp_ne (tgt := 51) hx hb dX7_integrateOther_42 (by decide) (fun c_1 => ?_) (fun c_1 => ?_)
  · rw [if_pos (c_1)] at hf
    refine lv_lconst (v := (1 : Int64)) hx hb dX7_integrateOther_51 (by decide) ?_
    exact b_X7_integrateOther_52 qM   C0 kb_6 hkb_6 zM x2 x3 x4 x5 v1 x2 x5 (1 : Int64) H locs ls hP hD hS (lv_sub hl [0, 1, 2, 3, 4] rfl) hf
  · rw [if_neg (not_not_intro c_1)] at hf
    refine lv_ldc2 (v := (-1 : Int64)) hx hb hown (hts _ wi_890) dX7_integrateOther_45 ?_
    refine lv_goto (tgt := 52) hx hb dX7_integrateOther_48 (by decide) ?_
    exact b_X7_integrateOther_52 qM   C0 kb_6 hkb_6 zM x2 x3 x4 x5 v1 x2 x5 (-1 : Int64) H locs ls hP hD hS (lv_sub hl [0, 1, 2, 3, 4] rfl) hf
def f_X7_integrateOther_6  : Nat → MdS → Int32 → Int32 → Int32 → Int32 → Option (MdS)
  | 0, _, _, _, _, _ => none
  | fu + 1, zM, x2, x3, x4, x5 => if x5 < 0 then f_X7_integrateOther_102 fuel zM x2 x3 x4 x5 else if (gM_top zM) = (0 : Int64) then f_X7_integrateOther_102 fuel zM x2 x3 x4 x5 else if ¬ x4 = (2 : Int32) then f_X7_integrateOther_36 (fun zM_ x2_ x3_ x4_ x5_ => f_X7_integrateOther_6  fu zM_ x2_ x3_ x4_ x5_) zM x2 x3 x4 x5 ((7 : Int32) - x4) else f_X7_integrateOther_36 (fun zM_ x2_ x3_ x4_ x5_ => f_X7_integrateOther_6  fu zM_ x2_ x3_ x4_ x5_) zM x2 x3 x4 x5 (2 : Int32)
set_option maxHeartbeats 4000000 in
set_option maxRecDepth 100000 in
theorem b_X7_integrateOther_6 {p : Program} {l : Launch} {e : Env} {s : State} {m : MethodId} {args : Array Value} {below : List Frame} {meth : Method} {c : Code} {G : va_G} {cA : Nat → ClassId} {W9 : va_W} (qM : Nat → Nat) (C0 : Amb p s m args meth c cX7_integrateOther RX7 6 none G cA (adr W9) []) {res : MdS} : ∀ (fu : Nat) (zM : MdS) (x2 : Int32) (x3 : Int32) (x4 : Int32) (x5 : Int32) (H : Heap) (locs : List Loc) (ls : Array Slot), va_P G vwCl ((wMd cA qM zM)) H → va_D (adr W9) ((wMd cA qM zM)) → va_S (adr W9) s.heap H locs → lv_has ls 6 [(0, .ref (qM 0)), (2, .int x2), (3, .int x3), (4, .int x4), (5, .int x5)] → f_X7_integrateOther_6 fu zM x2 x3 x4 x5 = some res → W p l e rm_X7_integrateOther s m args below meth c H locs 0 0 (MQ below (qWv G W9 ((wMd cA qM res))) args s 0 0 (adr W9)) (F0 m 6 ls []) := by
  obtain ⟨hx, hb, hr, hml, hown, hts, hlocks, hK, hR, hRA⟩ := id C0
  intro fu
  induction fu with
  | zero =>
    intro zM x2 x3 x4 x5 H locs ls hP hD hS hl hf
    rw [f_X7_integrateOther_6] at hf
    cases hf
  | succ fu ih =>
    intro zM x2 x3 x4 x5 H locs ls hP hD hS hl hf
    rw [f_X7_integrateOther_6] at hf
    refine lv_iload hx hb dX7_integrateOther_6 (lv_at hl 4 rfl) ?_
    refine lv_if_lt (tgt := 102) hx hb dX7_integrateOther_8 (by decide) (fun c_1 => ?_) (fun c_1 => ?_)
    · rw [if_pos (c_1)] at hf
      exact b_X7_integrateOther_102 qM   C0  fuel zM x2 x3 x4 x5 H locs ls hP hD hS (lv_sub hl [0, 1, 2, 3, 4] rfl) hf
    · rw [if_neg (c_1)] at hf
      refine lv_aload_n hx hb dX7_integrateOther_11 rfl (lv_at hl 0 rfl) ?_
      refine va_get (D := G) (ci := 5) (v := .long (gM_top zM)) (C := RX7) (T := TX7) (N := 13) hx hb hts fin_X7 hown hK.1 hP 0 rfl rfl 11 (by decide) (hts _ wi_682) (fun _ h9 => h9) rfl dX7_integrateOther_12 ?_
      refine lv_lconst (v := (0 : Int64)) hx hb dX7_integrateOther_15 (by decide) ?_
      refine W.lcmp hx hb dX7_integrateOther_16 ?_
      refine lv_if_eq (tgt := 102) hx hb dX7_integrateOther_17 (by decide) (fun c_2 => ?_) (fun c_2 => ?_)
      · rw [if_pos ((lg_cmp_eq _ _).mp c_2)] at hf
        exact b_X7_integrateOther_102 qM   C0  fuel zM x2 x3 x4 x5 H locs ls hP hD hS (lv_sub hl [0, 1, 2, 3, 4] rfl) hf
      · rw [if_neg (fun h => c_2 ((lg_cmp_eq _ _).mpr h))] at hf
        refine lv_aload_n hx hb dX7_integrateOther_20 rfl (lv_at hl 0 rfl) ?_
        refine lv_iload hx hb dX7_integrateOther_21 (lv_at hl 3 rfl) ?_
        refine lv_iconst (v := 2) hx hb dX7_integrateOther_23 (by decide) ?_
        refine lv_icmp_ne (tgt := 31) hx hb dX7_integrateOther_24 (by decide) (fun c_3 => ?_) (fun c_3 => ?_)
        · rw [if_pos (c_3)] at hf
          refine lv_bipush (v := (7 : Int32)) hx hb dX7_integrateOther_31 (by decide) ?_
          refine lv_iload hx hb dX7_integrateOther_33 (lv_at hl 3 rfl) ?_
          refine lv_isub hx hb dX7_integrateOther_35 ?_
          exact b_X7_integrateOther_36 qM   C0 (fun zM_ x2_ x3_ x4_ x5_ => f_X7_integrateOther_6  fu zM_ x2_ x3_ x4_ x5_) ih zM x2 x3 x4 x5 ((7 : Int32) - x4) H locs ls hP hD hS (lv_sub hl [0, 1, 2, 3, 4] rfl) hf
        · rw [if_neg (not_not_intro c_3)] at hf
          refine lv_iconst (v := 2) hx hb dX7_integrateOther_27 (by decide) ?_
          refine lv_goto (tgt := 36) hx hb dX7_integrateOther_28 (by decide) ?_
          exact b_X7_integrateOther_36 qM   C0 (fun zM_ x2_ x3_ x4_ x5_ => f_X7_integrateOther_6  fu zM_ x2_ x3_ x4_ x5_) ih zM x2 x3 x4 x5 (2 : Int32) H locs ls hP hD hS (lv_sub hl [0, 1, 2, 3, 4] rfl) hf
def f_X7_integrateOther (zM : MdS) (a1 : Int32) (a2 : Int32) (a3 : Int32) : Option (MdS) := f_X7_integrateOther_6 fuel zM a2 a3 a1 a3
set_option maxHeartbeats 4000000 in
set_option maxRecDepth 100000 in
theorem b_X7_integrateOther_0 {p : Program} {l : Launch} {e : Env} {s : State} {m : MethodId} {args : Array Value} {below : List Frame} {meth : Method} {c : Code} {G : va_G} {cA : Nat → ClassId} {W9 : va_W} (qM : Nat → Nat) (C0 : Amb p s m args meth c cX7_integrateOther RX7 6 none G cA (adr W9) []) {res : MdS} : ∀ (zM : MdS) (a1 : Int32) (a2 : Int32) (a3 : Int32) (H : Heap) (locs : List Loc) (ls : Array Slot), va_P G vwCl ((wMd cA qM zM)) H → va_D (adr W9) ((wMd cA qM zM)) → va_S (adr W9) s.heap H locs → lv_has ls 6 [(0, .ref (qM 0)), (1, .int a1), (2, .int a2), (3, .int a3)] → f_X7_integrateOther zM a1 a2 a3 = some res → W p l e rm_X7_integrateOther s m args below meth c H locs 0 0 (MQ below (qWv G W9 ((wMd cA qM res))) args s 0 0 (adr W9)) (F0 m 0 ls []) := by
  obtain ⟨hx, hb, hr, hml, hown, hts, hlocks, hK, hR, hRA⟩ := id C0
  intro zM a1 a2 a3 H locs ls hP hD hS hl hf
  unfold f_X7_integrateOther at hf
  refine lv_iload_n hx hb dX7_integrateOther_0 rfl (lv_at hl 1 rfl) ?_
  refine lv_istore (lv' := [(4, .int a1), (0, .ref (qM 0)), (1, .int a1), (2, .int a2), (3, .int a3)]) hx hb dX7_integrateOther_1 hl (by decide) rfl (fun ls hl => ?_)
  refine lv_iload_n hx hb dX7_integrateOther_3 rfl (lv_at hl 4 rfl) ?_
  refine lv_istore (lv' := [(5, .int a3), (4, .int a1), (0, .ref (qM 0)), (1, .int a1), (2, .int a2), (3, .int a3)]) hx hb dX7_integrateOther_4 hl (by decide) rfl (fun ls hl => ?_)
  exact b_X7_integrateOther_6 qM   C0  fuel zM a2 a3 a1 a3 H locs ls hP hD hS (lv_sub hl [2, 4, 5, 1, 0] rfl) hf

set_option maxRecDepth 100000 in
theorem m_X7_integrateOther (l : Launch) (G : va_G) (cA : Nat → ClassId) (qM : Nat → Nat) (zM : MdS) (a1 : Int32) (a2 : Int32) (a3 : Int32) (res : MdS) (hf : f_X7_integrateOther zM a1 a2 a3 = some res) : MWv l yX7_integrateOther (.code yX7_integrateOther cX7_integrateOther 6 none :: wd) rm_X7_integrateOther G cA [.ref (qM 0), .int a1, .int a2, .int a3] ((wMd cA qM zM)) [] ((wMd cA qM res)) := by
  refine Met.ofW (cc := cX7_integrateOther) (maxL := 6) (ret := none) (by decide) rfl ?_
  intro p e s m args below meth c s₁ B hml hv
  obtain ⟨rfl, hK, hP, hD0, hR, hRA⟩ := hv
  have C0 : Amb p s m ([.ref (qM 0), .int a1, .int a2, .int a3] : List Value).toArray meth c cX7_integrateOther RX7 6 none G cA (adr ((wMd cA qM zM))) [] := ⟨B.exec, B.bytes, B.returns, hml, findClass_of_methodNamed B.named, fun w h => atoms_spec (ws := (.code yX7_integrateOther cX7_integrateOther 6 none :: wd)) B.pre w (List.mem_cons_of_mem _ h), B.notSynchronized, hK, hR, hRA⟩
  have hl := lv_entry ([.ref (qM 0), .int a1, .int a2, .int a3]) (n := 6) (Nat.le_of_ble_eq_true rfl)
  rw [lg_entry_eq]
  generalize (lg_sl ([.ref (qM 0), .int a1, .int a2, .int a3]) ++ List.replicate (6 - (lg_sl ([.ref (qM 0), .int a1, .int a2, .int a3])).length) Slot.unset).toArray = ls at hl ⊢
  have hl : lv_has ls 6 [(0, .ref (qM 0)), (1, .int a1), (2, .int a2), (3, .int a3)] := hl
  exact b_X7_integrateOther_0 (W9 := ((wMd cA qM zM))) qM   C0 zM a1 a2 a3 s.heap [] ls hP (adr.self hD0) va_S.rf hl hf
theorem cw_X7_integrateOther {R : Room} {s : State} {args : Array Value} {own : String} {index : Nat} (ht : ∀ w ∈ wd, w.before args s = true) (hlink : Cond.methodLink own index yX7_integrateOther ∈ wd) (hR : rm_X7_integrateOther.frames + 1 ≤ R.frames ∧ 8 + (6 + 11) + rm_X7_integrateOther.locals ≤ R.locals) : CallW R s args own RX7 index yX7_integrateOther cX7_integrateOther 6 none (.code yX7_integrateOther cX7_integrateOther 6 none :: wd) rm_X7_integrateOther 0 0 3 := cwV9 3 ht wi_889 wi_888 wi_53 wi_60 hlink (by decide +kernel) rfl rfl hR
def rm_X7_integrate : Room := { frames := 4, cells := 0, slots := 0, locals := 124 }
def f_X7_integrate_187 (kb_79 : MdS → Int32 → Int32 → Int32 → Int32 → Option (Int32 × MdS)) (zM : MdS) (x1 : Int32) (x2 : Int32) (x3 : Int32) (x5 : Int32) : Option (Int32 × MdS) := kb_79 zM x1 x2 x3 (x5 + 1)
set_option maxHeartbeats 4000000 in
set_option maxRecDepth 100000 in
theorem b_X7_integrate_187 {p : Program} {l : Launch} {e : Env} {s : State} {m : MethodId} {args : Array Value} {below : List Frame} {meth : Method} {c : Code} {G : va_G} {cA : Nat → ClassId} {W9 : va_W} (qM : Nat → Nat) (C0 : Amb p s m args meth c cX7_integrate RX7 8 (some .int) G cA (adr W9) []) {res : Int32 × MdS} (kb_79 : MdS → Int32 → Int32 → Int32 → Int32 → Option (Int32 × MdS)) (hkb_79 : ∀ (zM : MdS) (x1 : Int32) (x2 : Int32) (x3 : Int32) (x5 : Int32) (H : Heap) (locs : List Loc) (ls : Array Slot), va_P G vwCl ((wMd cA qM zM)) H → va_D (adr W9) ((wMd cA qM zM)) → va_S (adr W9) s.heap H locs → lv_has ls 8 [(0, .ref (qM 0)), (1, .int x1), (2, .int x2), (3, .int x3), (5, .int x5)] → kb_79 zM x1 x2 x3 x5 = some res → W p l e rm_X7_integrate s m args below meth c H locs 0 0 (MQ below (qWi G W9 ((wMd cA qM res.2)) res.1) args s 0 0 (adr W9)) (F0 m 79 ls [])) : ∀ (zM : MdS) (x1 : Int32) (x2 : Int32) (x3 : Int32) (x5 : Int32) (H : Heap) (locs : List Loc) (ls : Array Slot), va_P G vwCl ((wMd cA qM zM)) H → va_D (adr W9) ((wMd cA qM zM)) → va_S (adr W9) s.heap H locs → lv_has ls 8 [(0, .ref (qM 0)), (1, .int x1), (2, .int x2), (3, .int x3), (5, .int x5)] → f_X7_integrate_187 kb_79 zM x1 x2 x3 x5 = some res → W p l e rm_X7_integrate s m args below meth c H locs 0 0 (MQ below (qWi G W9 ((wMd cA qM res.2)) res.1) args s 0 0 (adr W9)) (F0 m 187 ls []) := by
  obtain ⟨hx, hb, hr, hml, hown, hts, hlocks, hK, hR, hRA⟩ := id C0
  intro zM x1 x2 x3 x5 H locs ls hP hD hS hl hf
  unfold f_X7_integrate_187 at hf
  refine lv_iinc (v := (x5 + 1)) (lv' := [(5, .int (x5 + 1)), (0, .ref (qM 0)), (1, .int x1), (2, .int x2), (3, .int x3)]) hx hb dX7_integrate_187 hl (k := 4) rfl rfl (by decide) rfl (fun ls hl => ?_)
  refine lv_goto (tgt := 79) hx hb dX7_integrate_190 (by decide) ?_
  exact hkb_79 zM x1 x2 x3 (x5 + 1) H locs ls hP hD hS (lv_sub hl [1, 2, 3, 4, 0] rfl) hf
def f_X7_integrate_79  : Nat → MdS → Int32 → Int32 → Int32 → Int32 → Option (Int32 × MdS)
  | 0, _, _, _, _, _ => none
  | fu + 1, zM, x1, x2, x3, x5 => if (1150 : Int32) ≤ x5 then (f_X7_fits zM (8 : Int32)).bind fun r_2 => if r_2 = 0 then some ((-4 : Int32), zM) else (f_X7_fits zM (9 : Int32)).bind fun r_4 => if ¬ r_4 = 0 then (f_X7_copy zM x1 (8 : Int32)).bind fun r_6 => (f_X7_copy r_6 x2 (9 : Int32)).bind fun r_7 => (f_X7_termsOf r_7 (9 : Int32)).bind fun r_8 => some (r_8, r_7) else some ((-4 : Int32), zM) else if inb (((1150 : Int32) * x3) + x5) nUD = true then if inb (((1150 : Int32) * x3) + x5) nUD = true then if ¬ (gM_top (uM_bottom (uM_top zM (gM_up zM (((1150 : Int32) * x3) + x5).toNatClampNeg)) (gM_down (uM_top zM (gM_up zM (((1150 : Int32) * x3) + x5).toNatClampNeg)) (((1150 : Int32) * x3) + x5).toNatClampNeg))) = (0 : Int64) then (some ((x5 / (25 : Int32)))).bind fun y_12 => (some (((x5 - x5 / (25 : Int32) * (25 : Int32)) - (12 : Int32)))).bind fun y_13 => if (10 : Int32) ≤ y_12 then (f_X7_kindOf y_12).bind fun r_15 => (f_X7_countOf y_12).bind fun r_16 => (f_X7_integrateOther (uM_bottom (uM_top zM (gM_up zM (((1150 : Int32) * x3) + x5).toNatClampNeg)) (gM_down (uM_top zM (gM_up zM (((1150 : Int32) * x3) + x5).toNatClampNeg)) (((1150 : Int32) * x3) + x5).toNatClampNeg)) r_15 r_16 y_13).bind fun r_17 => f_X7_integrate_187 (fun zM_ x1_ x2_ x3_ x5_ => f_X7_integrate_79  fu zM_ x1_ x2_ x3_ x5_) r_17 x1 x2 x3 x5 else (f_X7_countOf y_12).bind fun r_18 => (f_X7_integrateLog (uM_bottom (uM_top zM (gM_up zM (((1150 : Int32) * x3) + x5).toNatClampNeg)) (gM_down (uM_top zM (gM_up zM (((1150 : Int32) * x3) + x5).toNatClampNeg)) (((1150 : Int32) * x3) + x5).toNatClampNeg)) r_18 y_13).bind fun r_19 => f_X7_integrate_187 (fun zM_ x1_ x2_ x3_ x5_ => f_X7_integrate_79  fu zM_ x1_ x2_ x3_ x5_) r_19 x1 x2 x3 x5 else f_X7_integrate_187 (fun zM_ x1_ x2_ x3_ x5_ => f_X7_integrate_79  fu zM_ x1_ x2_ x3_ x5_) (uM_bottom (uM_top zM (gM_up zM (((1150 : Int32) * x3) + x5).toNatClampNeg)) (gM_down (uM_top zM (gM_up zM (((1150 : Int32) * x3) + x5).toNatClampNeg)) (((1150 : Int32) * x3) + x5).toNatClampNeg)) x1 x2 x3 x5 else none else none
set_option maxHeartbeats 4000000 in
set_option maxRecDepth 100000 in
theorem b_X7_integrate_79 {p : Program} {l : Launch} {e : Env} {s : State} {m : MethodId} {args : Array Value} {below : List Frame} {meth : Method} {c : Code} {G : va_G} {cA : Nat → ClassId} {W9 : va_W} (qM : Nat → Nat) (C0 : Amb p s m args meth c cX7_integrate RX7 8 (some .int) G cA (adr W9) []) {res : Int32 × MdS} : ∀ (fu : Nat) (zM : MdS) (x1 : Int32) (x2 : Int32) (x3 : Int32) (x5 : Int32) (H : Heap) (locs : List Loc) (ls : Array Slot), va_P G vwCl ((wMd cA qM zM)) H → va_D (adr W9) ((wMd cA qM zM)) → va_S (adr W9) s.heap H locs → lv_has ls 8 [(0, .ref (qM 0)), (1, .int x1), (2, .int x2), (3, .int x3), (5, .int x5)] → f_X7_integrate_79 fu zM x1 x2 x3 x5 = some res → W p l e rm_X7_integrate s m args below meth c H locs 0 0 (MQ below (qWi G W9 ((wMd cA qM res.2)) res.1) args s 0 0 (adr W9)) (F0 m 79 ls []) := by
  obtain ⟨hx, hb, hr, hml, hown, hts, hlocks, hK, hR, hRA⟩ := id C0
  intro fu
  induction fu with
  | zero =>
    intro zM x1 x2 x3 x5 H locs ls hP hD hS hl hf
    rw [f_X7_integrate_79] at hf
    cases hf
  | succ fu ih =>
    intro zM x1 x2 x3 x5 H locs ls hP hD hS hl hf
    rw [f_X7_integrate_79] at hf
    refine lv_iload hx hb dX7_integrate_79 (lv_at hl 4 rfl) ?_
    refine lv_sipush (v := (1150 : Int32)) hx hb dX7_integrate_81 (by decide) ?_
    refine lv_icmp_ge (tgt := 193) hx hb dX7_integrate_84 (by decide) (fun c_1 => ?_) (fun c_1 => ?_)
    · rw [if_pos (c_1)] at hf
      refine lv_aload_n hx hb dX7_integrate_193 rfl (lv_at hl 0 rfl) ?_
      refine lv_bipush (v := (8 : Int32)) hx hb dX7_integrate_194 (by decide) ?_
      obtain ⟨r_2, hr_2, hf⟩ := obd hf
      refine cRiV (As := [.int (8 : Int32)]) (rest := []) ⟨hx, hb, hml, hown, hts⟩ (m_X7_fits l G cA qM zM (8 : Int32) r_2 hr_2) (cw_X7_fits hts wi_794 ⟨Nat.le_of_ble_eq_true rfl, Nat.le_of_ble_eq_true rfl⟩) hK (pk hP [0, 1, 2, 3, 4] rfl) (va_recv hK.1 hP (ci := 5) (q0 := 0) rfl rfl) rfl hl.1 rfl (Nat.le_of_ble_eq_true rfl) dX7_integrate_196 ⟨Nat.zero_le _, Nat.zero_le _⟩ ?_
      refine lv_if_eq (tgt := 211) hx hb dX7_integrate_199 (by decide) (fun c_3 => ?_) (fun c_3 => ?_)
      · rw [if_pos (c_3)] at hf
        refine lv_bipush (v := (-4 : Int32)) hx hb dX7_integrate_211 (by decide) ?_
        cases hf
        exact W.iret hx hb hr (fun t ht hW => ⟨⟨_, (), rfl, rfl, toT ht hP⟩, hS.F ht⟩) hS.2.2 dX7_integrate_213 hlocks
      · rw [if_neg (c_3)] at hf
        refine lv_aload_n hx hb dX7_integrate_202 rfl (lv_at hl 0 rfl) ?_
        refine lv_bipush (v := (9 : Int32)) hx hb dX7_integrate_203 (by decide) ?_
        obtain ⟨r_4, hr_4, hf⟩ := obd hf
        refine cRiV (As := [.int (9 : Int32)]) (rest := []) ⟨hx, hb, hml, hown, hts⟩ (m_X7_fits l G cA qM zM (9 : Int32) r_4 hr_4) (cw_X7_fits hts wi_794 ⟨Nat.le_of_ble_eq_true rfl, Nat.le_of_ble_eq_true rfl⟩) hK (pk hP [0, 1, 2, 3, 4] rfl) (va_recv hK.1 hP (ci := 5) (q0 := 0) rfl rfl) rfl hl.1 rfl (Nat.le_of_ble_eq_true rfl) dX7_integrate_205 ⟨Nat.zero_le _, Nat.zero_le _⟩ ?_
        refine lv_if_ne (tgt := 214) hx hb dX7_integrate_208 (by decide) (fun c_5 => ?_) (fun c_5 => ?_)
        · rw [if_pos (c_5)] at hf
          refine lv_aload_n hx hb dX7_integrate_214 rfl (lv_at hl 0 rfl) ?_
          refine lv_iload_n hx hb dX7_integrate_215 rfl (lv_at hl 1 rfl) ?_
          refine lv_bipush (v := (8 : Int32)) hx hb dX7_integrate_216 (by decide) ?_
          obtain ⟨r_6, hr_6, hf⟩ := obd hf
          refine cWvV (As := [.int x1, .int (8 : Int32)]) (rest := []) (W1 := ((wMd cA qM r_6))) ⟨hx, hb, hml, hown, hts⟩ (m_X7_copy l G cA qM zM x1 (8 : Int32) r_6 hr_6) (cw_X7_copy hts wi_802 ⟨Nat.le_of_ble_eq_true rfl, Nat.le_of_ble_eq_true rfl⟩) hK hP hD hS [0, 1, 2, 3, 4] [5, 6, 7, 8, 9] rfl rfl rfl (by decide) rfl va_Pnil dj_nil (va_recv hK.1 hP (ci := 5) (q0 := 0) rfl rfl) rfl hl.1 rfl (Nat.le_of_ble_eq_true rfl) dX7_integrate_218 ⟨Nat.zero_le _, Nat.zero_le _⟩ (fun H locs hP hD hS => ?_)
          refine lv_aload_n hx hb dX7_integrate_221 rfl (lv_at hl 0 rfl) ?_
          refine lv_iload_n hx hb dX7_integrate_222 rfl (lv_at hl 2 rfl) ?_
          refine lv_bipush (v := (9 : Int32)) hx hb dX7_integrate_223 (by decide) ?_
          obtain ⟨r_7, hr_7, hf⟩ := obd hf
          refine cWvV (As := [.int x2, .int (9 : Int32)]) (rest := []) (W1 := ((wMd cA qM r_7))) ⟨hx, hb, hml, hown, hts⟩ (m_X7_copy l G cA qM r_6 x2 (9 : Int32) r_7 hr_7) (cw_X7_copy hts wi_802 ⟨Nat.le_of_ble_eq_true rfl, Nat.le_of_ble_eq_true rfl⟩) hK hP hD hS [0, 1, 2, 3, 4] [5, 6, 7, 8, 9] rfl rfl rfl (by decide) rfl va_Pnil dj_nil (va_recv hK.1 hP (ci := 5) (q0 := 0) rfl rfl) rfl hl.1 rfl (Nat.le_of_ble_eq_true rfl) dX7_integrate_225 ⟨Nat.zero_le _, Nat.zero_le _⟩ (fun H locs hP hD hS => ?_)
          refine lv_aload_n hx hb dX7_integrate_228 rfl (lv_at hl 0 rfl) ?_
          refine lv_bipush (v := (9 : Int32)) hx hb dX7_integrate_229 (by decide) ?_
          obtain ⟨r_8, hr_8, hf⟩ := obd hf
          refine cRiV (As := [.int (9 : Int32)]) (rest := []) ⟨hx, hb, hml, hown, hts⟩ (m_X7_termsOf l G cA qM r_7 (9 : Int32) r_8 hr_8) (cw_X7_termsOf hts wi_798 ⟨Nat.le_of_ble_eq_true rfl, Nat.le_of_ble_eq_true rfl⟩) hK (pk hP [0, 1, 2, 3, 4] rfl) (va_recv hK.1 hP (ci := 5) (q0 := 0) rfl rfl) rfl hl.1 rfl (Nat.le_of_ble_eq_true rfl) dX7_integrate_231 ⟨Nat.zero_le _, Nat.zero_le _⟩ ?_
          cases hf
          exact W.iret hx hb hr (fun t ht hW => ⟨⟨_, (), rfl, rfl, toT ht hP⟩, hS.F ht⟩) hS.2.2 dX7_integrate_234 hlocks
        · rw [if_neg (not_not_intro c_5)] at hf
          refine lv_bipush (v := (-4 : Int32)) hx hb dX7_integrate_211 (by decide) ?_
          cases hf
          exact W.iret hx hb hr (fun t ht hW => ⟨⟨_, (), rfl, rfl, toT ht hP⟩, hS.F ht⟩) hS.2.2 dX7_integrate_213 hlocks
    · rw [if_neg (c_1)] at hf
      refine lv_aload_n hx hb dX7_integrate_87 rfl (lv_at hl 0 rfl) ?_
      refine lv_aload_n hx hb dX7_integrate_88 rfl (lv_at hl 0 rfl) ?_
      refine va_get (D := G) (ci := 5) (v := .ref (qM 3)) (C := RX7) (T := TX7) (N := 13) hx hb hts fin_X7 hown hK.1 hP 0 rfl rfl 6 (by decide) (hts _ wi_677) (fun _ h9 => h9) rfl dX7_integrate_89 ?_
      refine lv_sipush (v := (1150 : Int32)) hx hb dX7_integrate_92 (by decide) ?_
      refine lv_iload_n hx hb dX7_integrate_95 rfl (lv_at hl 3 rfl) ?_
      refine lv_imul hx hb dX7_integrate_96 ?_
      refine lv_iload hx hb dX7_integrate_97 (lv_at hl 4 rfl) ?_
      refine lv_iadd hx hb dX7_integrate_99 ?_
      obtain ⟨hi_9, hf⟩ := oif hf
      refine va_lald hx hb hK.1 hP 3 1 rfl rfl (inb_in hi_9) dX7_integrate_100 ?_
      refine va_put (D := G) (ci := 5) (v := .long (gM_up zM (((1150 : Int32) * x3) + x5).toNatClampNeg)) (ty := .long) (C := RX7) (T := TX7) (N := 13) hx hb hts fin_X7 tyX7 tyX7_ok nmX7 hown hK.1 hP hD hS 0 rfl rfl 11 (by decide) (hts _ wi_682) (fun _ h9 => h9) rfl (by decide +kernel) rfl rfl (Nat.le_of_ble_eq_true rfl) dX7_integrate_101 (fun H locs hP hD hS => ?_)
      have hP := sM_top_P hP
      have hD := sM_top_D hD
      refine lv_aload_n hx hb dX7_integrate_104 rfl (lv_at hl 0 rfl) ?_
      refine lv_aload_n hx hb dX7_integrate_105 rfl (lv_at hl 0 rfl) ?_
      refine va_get (D := G) (ci := 5) (v := .ref (qM 4)) (C := RX7) (T := TX7) (N := 13) hx hb hts fin_X7 hown hK.1 hP 0 rfl rfl 7 (by decide) (hts _ wi_678) (fun _ h9 => h9) rfl dX7_integrate_106 ?_
      refine lv_sipush (v := (1150 : Int32)) hx hb dX7_integrate_109 (by decide) ?_
      refine lv_iload_n hx hb dX7_integrate_112 rfl (lv_at hl 3 rfl) ?_
      refine lv_imul hx hb dX7_integrate_113 ?_
      refine lv_iload hx hb dX7_integrate_114 (lv_at hl 4 rfl) ?_
      refine lv_iadd hx hb dX7_integrate_116 ?_
      obtain ⟨hi_10, hf⟩ := oif hf
      refine va_lald hx hb hK.1 hP 4 1 rfl rfl (inb_in hi_10) dX7_integrate_117 ?_
      refine va_put (D := G) (ci := 5) (v := .long (gM_down (uM_top zM (gM_up zM (((1150 : Int32) * x3) + x5).toNatClampNeg)) (((1150 : Int32) * x3) + x5).toNatClampNeg)) (ty := .long) (C := RX7) (T := TX7) (N := 13) hx hb hts fin_X7 tyX7 tyX7_ok nmX7 hown hK.1 hP hD hS 0 rfl rfl 12 (by decide) (hts _ wi_683) (fun _ h9 => h9) rfl (by decide +kernel) rfl rfl (Nat.le_of_ble_eq_true rfl) dX7_integrate_118 (fun H locs hP hD hS => ?_)
      have hP := sM_bottom_P hP
      have hD := sM_bottom_D hD
      refine lv_aload_n hx hb dX7_integrate_121 rfl (lv_at hl 0 rfl) ?_
      refine va_get (D := G) (ci := 5) (v := .long (gM_top (uM_bottom (uM_top zM (gM_up zM (((1150 : Int32) * x3) + x5).toNatClampNeg)) (gM_down (uM_top zM (gM_up zM (((1150 : Int32) * x3) + x5).toNatClampNeg)) (((1150 : Int32) * x3) + x5).toNatClampNeg)))) (C := RX7) (T := TX7) (N := 13) hx hb hts fin_X7 hown hK.1 hP 0 rfl rfl 11 (by decide) (hts _ wi_682) (fun _ h9 => h9) rfl dX7_integrate_122 ?_
      refine lv_lconst (v := (0 : Int64)) hx hb dX7_integrate_125 (by decide) ?_
      refine W.lcmp hx hb dX7_integrate_126 ?_
      refine lv_if_ne (tgt := 133) hx hb dX7_integrate_127 (by decide) (fun c_11 => ?_) (fun c_11 => ?_)
      · rw [if_pos (fun h => c_11 ((lg_cmp_eq _ _).mpr h))] at hf
        refine lv_iload hx hb dX7_integrate_133 (lv_at hl 4 rfl) ?_
        refine lv_bipush (v := (25 : Int32)) hx hb dX7_integrate_135 (by decide) ?_
        refine lv_idiv hx hb dX7_integrate_137 (by decide) ?_
        obtain ⟨y_12, hq, hf⟩ := obd hf
        have hy_12 : (x5 / (25 : Int32)) = y_12 := Option.some.inj hq
        rw [hy_12]
        refine lv_istore (lv' := [(6, .int y_12), (0, .ref (qM 0)), (1, .int x1), (2, .int x2), (3, .int x3), (5, .int x5)]) hx hb dX7_integrate_138 hl (by decide) rfl (fun ls hl => ?_)
        refine lv_iload hx hb dX7_integrate_140 (lv_at hl 5 rfl) ?_
        refine lv_bipush (v := (25 : Int32)) hx hb dX7_integrate_142 (by decide) ?_
        refine lv_irem hx hb dX7_integrate_144 (by decide) ?_
        refine lv_bipush (v := (12 : Int32)) hx hb dX7_integrate_145 (by decide) ?_
        refine lv_isub hx hb dX7_integrate_147 ?_
        obtain ⟨y_13, hq, hf⟩ := obd hf
        have hy_13 : ((x5 - x5 / (25 : Int32) * (25 : Int32)) - (12 : Int32)) = y_13 := Option.some.inj hq
        rw [hy_13]
        refine lv_istore (lv' := [(7, .int y_13), (6, .int y_12), (0, .ref (qM 0)), (1, .int x1), (2, .int x2), (3, .int x3), (5, .int x5)]) hx hb dX7_integrate_148 hl (by decide) rfl (fun ls hl => ?_)
        refine lv_iload hx hb dX7_integrate_150 (lv_at hl 1 rfl) ?_
        refine lv_bipush (v := (10 : Int32)) hx hb dX7_integrate_152 (by decide) ?_
        refine lv_icmp_ge (tgt := 171) hx hb dX7_integrate_154 (by decide) (fun c_14 => ?_) (fun c_14 => ?_)
        · rw [if_pos (c_14)] at hf
          refine lv_aload_n hx hb dX7_integrate_171 rfl (lv_at hl 2 rfl) ?_
          refine lv_iload hx hb dX7_integrate_172 (lv_at hl 1 rfl) ?_
          obtain ⟨r_15, hr_15, hf⟩ := obd hf
          refine cRiS (As := [.int y_12]) (rest := [.ref (qM 0)]) ⟨hx, hb, hml, hown, hts⟩ (m_X7_kindOf l G cA y_12 r_15 hr_15) (cw_X7_kindOf hts wi_833 ⟨Nat.le_of_ble_eq_true rfl, Nat.le_of_ble_eq_true rfl⟩) hK va_Pnil rfl hl.1 rfl (Nat.le_of_ble_eq_true rfl) dX7_integrate_174 ⟨Nat.zero_le _, Nat.zero_le _⟩ ?_
          refine lv_iload hx hb dX7_integrate_177 (lv_at hl 1 rfl) ?_
          obtain ⟨r_16, hr_16, hf⟩ := obd hf
          refine cRiS (As := [.int y_12]) (rest := [.int r_15, .ref (qM 0)]) ⟨hx, hb, hml, hown, hts⟩ (m_X7_countOf l G cA y_12 r_16 hr_16) (cw_X7_countOf hts wi_836 ⟨Nat.le_of_ble_eq_true rfl, Nat.le_of_ble_eq_true rfl⟩) hK va_Pnil rfl hl.1 rfl (Nat.le_of_ble_eq_true rfl) dX7_integrate_179 ⟨Nat.zero_le _, Nat.zero_le _⟩ ?_
          refine lv_iload hx hb dX7_integrate_182 (lv_at hl 0 rfl) ?_
          obtain ⟨r_17, hr_17, hf⟩ := obd hf
          refine cWvV (As := [.int r_15, .int r_16, .int y_13]) (rest := []) (W1 := ((wMd cA qM r_17))) ⟨hx, hb, hml, hown, hts⟩ (m_X7_integrateOther l G cA qM (uM_bottom (uM_top zM (gM_up zM (((1150 : Int32) * x3) + x5).toNatClampNeg)) (gM_down (uM_top zM (gM_up zM (((1150 : Int32) * x3) + x5).toNatClampNeg)) (((1150 : Int32) * x3) + x5).toNatClampNeg)) r_15 r_16 y_13 r_17 hr_17) (cw_X7_integrateOther hts wi_886 ⟨Nat.le_of_ble_eq_true rfl, Nat.le_of_ble_eq_true rfl⟩) hK hP hD hS [0, 1, 2, 3, 4] [5, 6, 7, 8, 9] rfl rfl rfl (by decide) rfl va_Pnil dj_nil (va_recv hK.1 hP (ci := 5) (q0 := 0) rfl rfl) rfl hl.1 rfl (Nat.le_of_ble_eq_true rfl) dX7_integrate_184 ⟨Nat.zero_le _, Nat.zero_le _⟩ (fun H locs hP hD hS => ?_)
          exact b_X7_integrate_187 qM   C0 (fun zM_ x1_ x2_ x3_ x5_ => f_X7_integrate_79  fu zM_ x1_ x2_ x3_ x5_) ih r_17 x1 x2 x3 x5 H locs ls hP hD hS (lv_sub hl [2, 3, 4, 5, 6] rfl) hf
        · rw [if_neg (c_14)] at hf
          refine lv_aload_n hx hb dX7_integrate_157 rfl (lv_at hl 2 rfl) ?_
          refine lv_iload hx hb dX7_integrate_158 (lv_at hl 1 rfl) ?_
          obtain ⟨r_18, hr_18, hf⟩ := obd hf
          refine cRiS (As := [.int y_12]) (rest := [.ref (qM 0)]) ⟨hx, hb, hml, hown, hts⟩ (m_X7_countOf l G cA y_12 r_18 hr_18) (cw_X7_countOf hts wi_836 ⟨Nat.le_of_ble_eq_true rfl, Nat.le_of_ble_eq_true rfl⟩) hK va_Pnil rfl hl.1 rfl (Nat.le_of_ble_eq_true rfl) dX7_integrate_160 ⟨Nat.zero_le _, Nat.zero_le _⟩ ?_
          refine lv_iload hx hb dX7_integrate_163 (lv_at hl 0 rfl) ?_
          obtain ⟨r_19, hr_19, hf⟩ := obd hf
          refine cWvV (As := [.int r_18, .int y_13]) (rest := []) (W1 := ((wMd cA qM r_19))) ⟨hx, hb, hml, hown, hts⟩ (m_X7_integrateLog l G cA qM (uM_bottom (uM_top zM (gM_up zM (((1150 : Int32) * x3) + x5).toNatClampNeg)) (gM_down (uM_top zM (gM_up zM (((1150 : Int32) * x3) + x5).toNatClampNeg)) (((1150 : Int32) * x3) + x5).toNatClampNeg)) r_18 y_13 r_19 hr_19) (cw_X7_integrateLog hts wi_874 ⟨Nat.le_of_ble_eq_true rfl, Nat.le_of_ble_eq_true rfl⟩) hK hP hD hS [0, 1, 2, 3, 4] [5, 6, 7, 8, 9] rfl rfl rfl (by decide) rfl va_Pnil dj_nil (va_recv hK.1 hP (ci := 5) (q0 := 0) rfl rfl) rfl hl.1 rfl (Nat.le_of_ble_eq_true rfl) dX7_integrate_165 ⟨Nat.zero_le _, Nat.zero_le _⟩ (fun H locs hP hD hS => ?_)
          refine lv_goto (tgt := 187) hx hb dX7_integrate_168 (by decide) ?_
          exact b_X7_integrate_187 qM   C0 (fun zM_ x1_ x2_ x3_ x5_ => f_X7_integrate_79  fu zM_ x1_ x2_ x3_ x5_) ih r_19 x1 x2 x3 x5 H locs ls hP hD hS (lv_sub hl [2, 3, 4, 5, 6] rfl) hf
      · rw [if_neg (fun h => h ((lg_cmp_eq _ _).mp c_11))] at hf
        refine lv_goto (tgt := 187) hx hb dX7_integrate_130 (by decide) ?_
        exact b_X7_integrate_187 qM   C0 (fun zM_ x1_ x2_ x3_ x5_ => f_X7_integrate_79  fu zM_ x1_ x2_ x3_ x5_) ih (uM_bottom (uM_top zM (gM_up zM (((1150 : Int32) * x3) + x5).toNatClampNeg)) (gM_down (uM_top zM (gM_up zM (((1150 : Int32) * x3) + x5).toNatClampNeg)) (((1150 : Int32) * x3) + x5).toNatClampNeg)) x1 x2 x3 x5 H locs ls hP hD hS (lv_sub hl [0, 1, 2, 3, 4] rfl) hf
def f_X7_integrate_51 (zM : MdS) (x1 : Int32) (x2 : Int32) (x3 : Int32) (v1 : Int32) : Option (Int32 × MdS) := (f_X7_refused zM v1).bind fun r_1 => if r_1.1 = 0 then (f_X7_empty (uM_isFull r_1.2 (0 : Int32)) (8 : Int32)).bind fun r_3 => (f_X7_empty r_3 (9 : Int32)).bind fun r_4 => f_X7_integrate_79 fuel r_4 x1 x2 x3 (0 : Int32) else some ((0 : Int32), r_1.2)
set_option maxHeartbeats 4000000 in
set_option maxRecDepth 100000 in
theorem b_X7_integrate_51 {p : Program} {l : Launch} {e : Env} {s : State} {m : MethodId} {args : Array Value} {below : List Frame} {meth : Method} {c : Code} {G : va_G} {cA : Nat → ClassId} {W9 : va_W} (qM : Nat → Nat) (C0 : Amb p s m args meth c cX7_integrate RX7 8 (some .int) G cA (adr W9) []) {res : Int32 × MdS} : ∀ (zM : MdS) (x1 : Int32) (x2 : Int32) (x3 : Int32) (v1 : Int32) (H : Heap) (locs : List Loc) (ls : Array Slot), va_P G vwCl ((wMd cA qM zM)) H → va_D (adr W9) ((wMd cA qM zM)) → va_S (adr W9) s.heap H locs → lv_has ls 8 [(0, .ref (qM 0)), (1, .int x1), (2, .int x2), (3, .int x3)] → f_X7_integrate_51 zM x1 x2 x3 v1 = some res → W p l e rm_X7_integrate s m args below meth c H locs 0 0 (MQ below (qWi G W9 ((wMd cA qM res.2)) res.1) args s 0 0 (adr W9)) (F0 m 51 ls [.int v1, .ref (qM 0)]) := by
  obtain ⟨hx, hb, hr, hml, hown, hts, hlocks, hK, hR, hRA⟩ := id C0
  intro zM x1 x2 x3 v1 H locs ls hP hD hS hl hf
  unfold f_X7_integrate_51 at hf
  obtain ⟨r_1, hr_1, hf⟩ := obd hf
  refine cWiV (As := [.int v1]) (rest := []) (W1 := ((wMd cA qM r_1.2))) ⟨hx, hb, hml, hown, hts⟩ (m_X7_refused l G cA qM zM v1 r_1 hr_1) (cw_X7_refused hts wi_723 ⟨Nat.le_of_ble_eq_true rfl, Nat.le_of_ble_eq_true rfl⟩) hK hP hD hS [0, 1, 2, 3, 4] [5, 6, 7, 8, 9] rfl rfl rfl (by decide) rfl va_Pnil dj_nil (va_recv hK.1 hP (ci := 5) (q0 := 0) rfl rfl) rfl hl.1 rfl (Nat.le_of_ble_eq_true rfl) dX7_integrate_51 ⟨Nat.zero_le _, Nat.zero_le _⟩ (fun H locs hP hD hS => ?_)
  refine lv_if_eq (tgt := 59) hx hb dX7_integrate_54 (by decide) (fun c_2 => ?_) (fun c_2 => ?_)
  · rw [if_pos (c_2)] at hf
    refine lv_aload_n hx hb dX7_integrate_59 rfl (lv_at hl 0 rfl) ?_
    refine lv_iconst (v := 0) hx hb dX7_integrate_60 (by decide) ?_
    refine va_put (D := G) (ci := 5) (v := .int (0 : Int32)) (ty := .boolean) (C := RX7) (T := TX7) (N := 13) hx hb hts fin_X7 tyX7 tyX7_ok nmX7 hown hK.1 hP hD hS 0 rfl rfl 8 (by decide) (hts _ wi_679) (fun _ h9 => h9) rfl (by decide +kernel) (by decide) (by decide) (Nat.le_of_ble_eq_true rfl) dX7_integrate_61 (fun H locs hP hD hS => ?_)
    have hP := sM_isFull_P hP
    have hD := sM_isFull_D hD
    refine lv_aload_n hx hb dX7_integrate_64 rfl (lv_at hl 0 rfl) ?_
    refine lv_bipush (v := (8 : Int32)) hx hb dX7_integrate_65 (by decide) ?_
    obtain ⟨r_3, hr_3, hf⟩ := obd hf
    refine cWvV (As := [.int (8 : Int32)]) (rest := []) (W1 := ((wMd cA qM r_3))) ⟨hx, hb, hml, hown, hts⟩ (m_X7_empty l G cA qM (uM_isFull r_1.2 (0 : Int32)) (8 : Int32) r_3 hr_3) (cw_X7_empty hts wi_738 ⟨Nat.le_of_ble_eq_true rfl, Nat.le_of_ble_eq_true rfl⟩) hK hP hD hS [0, 1, 2, 3, 4] [5, 6, 7, 8, 9] rfl rfl rfl (by decide) rfl va_Pnil dj_nil (va_recv hK.1 hP (ci := 5) (q0 := 0) rfl rfl) rfl hl.1 rfl (Nat.le_of_ble_eq_true rfl) dX7_integrate_67 ⟨Nat.zero_le _, Nat.zero_le _⟩ (fun H locs hP hD hS => ?_)
    refine lv_aload_n hx hb dX7_integrate_70 rfl (lv_at hl 0 rfl) ?_
    refine lv_bipush (v := (9 : Int32)) hx hb dX7_integrate_71 (by decide) ?_
    obtain ⟨r_4, hr_4, hf⟩ := obd hf
    refine cWvV (As := [.int (9 : Int32)]) (rest := []) (W1 := ((wMd cA qM r_4))) ⟨hx, hb, hml, hown, hts⟩ (m_X7_empty l G cA qM r_3 (9 : Int32) r_4 hr_4) (cw_X7_empty hts wi_738 ⟨Nat.le_of_ble_eq_true rfl, Nat.le_of_ble_eq_true rfl⟩) hK hP hD hS [0, 1, 2, 3, 4] [5, 6, 7, 8, 9] rfl rfl rfl (by decide) rfl va_Pnil dj_nil (va_recv hK.1 hP (ci := 5) (q0 := 0) rfl rfl) rfl hl.1 rfl (Nat.le_of_ble_eq_true rfl) dX7_integrate_73 ⟨Nat.zero_le _, Nat.zero_le _⟩ (fun H locs hP hD hS => ?_)
    refine lv_iconst (v := 0) hx hb dX7_integrate_76 (by decide) ?_
    refine lv_istore (lv' := [(5, .int (0 : Int32)), (0, .ref (qM 0)), (1, .int x1), (2, .int x2), (3, .int x3)]) hx hb dX7_integrate_77 hl (by decide) rfl (fun ls hl => ?_)
    exact b_X7_integrate_79 qM   C0  fuel r_4 x1 x2 x3 (0 : Int32) H locs ls hP hD hS (lv_sub hl [1, 2, 3, 4, 0] rfl) hf
  · rw [if_neg (c_2)] at hf
    refine lv_iconst (v := 0) hx hb dX7_integrate_57 (by decide) ?_
    cases hf
    exact W.iret hx hb hr (fun t ht hW => ⟨⟨_, (), rfl, rfl, toT ht hP⟩, hS.F ht⟩) hS.2.2 dX7_integrate_58 hlocks
def f_X7_integrate_26 (zM : MdS) (x1 : Int32) (x2 : Int32) (x3 : Int32) (v0 : Int32) : Option (Int32 × MdS) := if ¬ v0 = 0 then (f_X7_isSmall zM x3).bind fun r_2 => if ¬ r_2 = 0 then f_X7_integrate_51  zM x1 x2 x3 (0 : Int32) else f_X7_integrate_51  zM x1 x2 x3 (2 : Int32) else f_X7_integrate_51  zM x1 x2 x3 (1 : Int32)
set_option maxHeartbeats 4000000 in
set_option maxRecDepth 100000 in
theorem b_X7_integrate_26 {p : Program} {l : Launch} {e : Env} {s : State} {m : MethodId} {args : Array Value} {below : List Frame} {meth : Method} {c : Code} {G : va_G} {cA : Nat → ClassId} {W9 : va_W} (qM : Nat → Nat) (C0 : Amb p s m args meth c cX7_integrate RX7 8 (some .int) G cA (adr W9) []) {res : Int32 × MdS} : ∀ (zM : MdS) (x1 : Int32) (x2 : Int32) (x3 : Int32) (v0 : Int32) (H : Heap) (locs : List Loc) (ls : Array Slot), va_P G vwCl ((wMd cA qM zM)) H → va_D (adr W9) ((wMd cA qM zM)) → va_S (adr W9) s.heap H locs → lv_has ls 8 [(0, .ref (qM 0)), (1, .int x1), (2, .int x2), (3, .int x3)] → f_X7_integrate_26 zM x1 x2 x3 v0 = some res → W p l e rm_X7_integrate s m args below meth c H locs 0 0 (MQ below (qWi G W9 ((wMd cA qM res.2)) res.1) args s 0 0 (adr W9)) (F0 m 26 ls [.int v0]) := by
  obtain ⟨hx, hb, hr, hml, hown, hts, hlocks, hK, hR, hRA⟩ := id C0
  intro zM x1 x2 x3 v0 H locs ls hP hD hS hl hf
  unfold f_X7_integrate_26 at hf
  refine lv_istore (lv' := [(4, .int v0), (0, .ref (qM 0)), (1, .int x1), (2, .int x2), (3, .int x3)]) hx hb dX7_integrate_26 hl (by decide) rfl (fun ls hl => ?_)
  refine lv_aload_n hx hb dX7_integrate_28 rfl (lv_at hl 1 rfl) ?_
  refine lv_iload hx hb dX7_integrate_29 (lv_at hl 0 rfl) ?_
  refine lv_if_ne (tgt := 38) hx hb dX7_integrate_31 (by decide) (fun c_1 => ?_) (fun c_1 => ?_)
  · rw [if_pos (c_1)] at hf
    refine lv_aload_n hx hb dX7_integrate_38 rfl (lv_at hl 1 rfl) ?_
    refine lv_iload_n hx hb dX7_integrate_39 rfl (lv_at hl 4 rfl) ?_
    obtain ⟨r_2, hr_2, hf⟩ := obd hf
    refine cRiV (As := [.int x3]) (rest := [.ref (qM 0)]) ⟨hx, hb, hml, hown, hts⟩ (m_X7_isSmall l G cA qM zM x3 r_2 hr_2) (cw_X7_isSmall hts wi_847 ⟨Nat.le_of_ble_eq_true rfl, Nat.le_of_ble_eq_true rfl⟩) hK (pk hP [0, 1, 2, 3, 4] rfl) (va_recv hK.1 hP (ci := 5) (q0 := 0) rfl rfl) rfl hl.1 rfl (Nat.le_of_ble_eq_true rfl) dX7_integrate_40 ⟨Nat.zero_le _, Nat.zero_le _⟩ ?_
    refine lv_if_ne (tgt := 50) hx hb dX7_integrate_43 (by decide) (fun c_3 => ?_) (fun c_3 => ?_)
    · rw [if_pos (c_3)] at hf
      refine lv_iconst (v := 0) hx hb dX7_integrate_50 (by decide) ?_
      exact b_X7_integrate_51 qM   C0  zM x1 x2 x3 (0 : Int32) H locs ls hP hD hS (lv_sub hl [1, 2, 3, 4] rfl) hf
    · rw [if_neg (not_not_intro c_3)] at hf
      refine lv_iconst (v := 2) hx hb dX7_integrate_46 (by decide) ?_
      refine lv_goto (tgt := 51) hx hb dX7_integrate_47 (by decide) ?_
      exact b_X7_integrate_51 qM   C0  zM x1 x2 x3 (2 : Int32) H locs ls hP hD hS (lv_sub hl [1, 2, 3, 4] rfl) hf
  · rw [if_neg (not_not_intro c_1)] at hf
    refine lv_iconst (v := 1) hx hb dX7_integrate_34 (by decide) ?_
    refine lv_goto (tgt := 51) hx hb dX7_integrate_35 (by decide) ?_
    exact b_X7_integrate_51 qM   C0  zM x1 x2 x3 (1 : Int32) H locs ls hP hD hS (lv_sub hl [1, 2, 3, 4] rfl) hf
def f_X7_integrate_25 (zM : MdS) (x1 : Int32) (x2 : Int32) (x3 : Int32) : Option (Int32 × MdS) := f_X7_integrate_26  zM x1 x2 x3 (0 : Int32)
set_option maxHeartbeats 4000000 in
set_option maxRecDepth 100000 in
theorem b_X7_integrate_25 {p : Program} {l : Launch} {e : Env} {s : State} {m : MethodId} {args : Array Value} {below : List Frame} {meth : Method} {c : Code} {G : va_G} {cA : Nat → ClassId} {W9 : va_W} (qM : Nat → Nat) (C0 : Amb p s m args meth c cX7_integrate RX7 8 (some .int) G cA (adr W9) []) {res : Int32 × MdS} : ∀ (zM : MdS) (x1 : Int32) (x2 : Int32) (x3 : Int32) (H : Heap) (locs : List Loc) (ls : Array Slot), va_P G vwCl ((wMd cA qM zM)) H → va_D (adr W9) ((wMd cA qM zM)) → va_S (adr W9) s.heap H locs → lv_has ls 8 [(0, .ref (qM 0)), (1, .int x1), (2, .int x2), (3, .int x3)] → f_X7_integrate_25 zM x1 x2 x3 = some res → W p l e rm_X7_integrate s m args below meth c H locs 0 0 (MQ below (qWi G W9 ((wMd cA qM res.2)) res.1) args s 0 0 (adr W9)) (F0 m 25 ls []) := by
  obtain ⟨hx, hb, hr, hml, hown, hts, hlocks, hK, hR, hRA⟩ := id C0
  intro zM x1 x2 x3 H locs ls hP hD hS hl hf
  unfold f_X7_integrate_25 at hf
  refine lv_iconst (v := 0) hx hb dX7_integrate_25 (by decide) ?_
  exact b_X7_integrate_26 qM   C0  zM x1 x2 x3 (0 : Int32) H locs ls hP hD hS (lv_sub hl [0, 1, 2, 3] rfl) hf
def f_X7_integrate (zM : MdS) (a1 : Int32) (a2 : Int32) (a3 : Int32) : Option (Int32 × MdS) := (f_X7_isSlot a1).bind fun r_1 => if r_1 = 0 then f_X7_integrate_25  zM a1 a2 a3 else (f_X7_isSlot a2).bind fun r_3 => if r_3 = 0 then f_X7_integrate_25  zM a1 a2 a3 else (f_X7_isSlot a3).bind fun r_5 => if r_5 = 0 then f_X7_integrate_25  zM a1 a2 a3 else f_X7_integrate_26  zM a1 a2 a3 (1 : Int32)
set_option maxHeartbeats 4000000 in
set_option maxRecDepth 100000 in
theorem b_X7_integrate_0 {p : Program} {l : Launch} {e : Env} {s : State} {m : MethodId} {args : Array Value} {below : List Frame} {meth : Method} {c : Code} {G : va_G} {cA : Nat → ClassId} {W9 : va_W} (qM : Nat → Nat) (C0 : Amb p s m args meth c cX7_integrate RX7 8 (some .int) G cA (adr W9) []) {res : Int32 × MdS} : ∀ (zM : MdS) (a1 : Int32) (a2 : Int32) (a3 : Int32) (H : Heap) (locs : List Loc) (ls : Array Slot), va_P G vwCl ((wMd cA qM zM)) H → va_D (adr W9) ((wMd cA qM zM)) → va_S (adr W9) s.heap H locs → lv_has ls 8 [(0, .ref (qM 0)), (1, .int a1), (2, .int a2), (3, .int a3)] → f_X7_integrate zM a1 a2 a3 = some res → W p l e rm_X7_integrate s m args below meth c H locs 0 0 (MQ below (qWi G W9 ((wMd cA qM res.2)) res.1) args s 0 0 (adr W9)) (F0 m 0 ls []) := by
  obtain ⟨hx, hb, hr, hml, hown, hts, hlocks, hK, hR, hRA⟩ := id C0
  intro zM a1 a2 a3 H locs ls hP hD hS hl hf
  unfold f_X7_integrate at hf
  refine lv_iload_n hx hb dX7_integrate_0 rfl (lv_at hl 1 rfl) ?_
  obtain ⟨r_1, hr_1, hf⟩ := obd hf
  refine cRiS (As := [.int a1]) (rest := []) ⟨hx, hb, hml, hown, hts⟩ (m_X7_isSlot l G cA a1 r_1 hr_1) (cw_X7_isSlot hts wi_735 ⟨Nat.le_of_ble_eq_true rfl, Nat.le_of_ble_eq_true rfl⟩) hK va_Pnil rfl hl.1 rfl (Nat.le_of_ble_eq_true rfl) dX7_integrate_1 ⟨Nat.zero_le _, Nat.zero_le _⟩ ?_
  refine lv_if_eq (tgt := 25) hx hb dX7_integrate_4 (by decide) (fun c_2 => ?_) (fun c_2 => ?_)
  · rw [if_pos (c_2)] at hf
    exact b_X7_integrate_25 qM   C0  zM a1 a2 a3 H locs ls hP hD hS (lv_sub hl [0, 1, 2, 3] rfl) hf
  · rw [if_neg (c_2)] at hf
    refine lv_iload_n hx hb dX7_integrate_7 rfl (lv_at hl 2 rfl) ?_
    obtain ⟨r_3, hr_3, hf⟩ := obd hf
    refine cRiS (As := [.int a2]) (rest := []) ⟨hx, hb, hml, hown, hts⟩ (m_X7_isSlot l G cA a2 r_3 hr_3) (cw_X7_isSlot hts wi_735 ⟨Nat.le_of_ble_eq_true rfl, Nat.le_of_ble_eq_true rfl⟩) hK va_Pnil rfl hl.1 rfl (Nat.le_of_ble_eq_true rfl) dX7_integrate_8 ⟨Nat.zero_le _, Nat.zero_le _⟩ ?_
    refine lv_if_eq (tgt := 25) hx hb dX7_integrate_11 (by decide) (fun c_4 => ?_) (fun c_4 => ?_)
    · rw [if_pos (c_4)] at hf
      exact b_X7_integrate_25 qM   C0  zM a1 a2 a3 H locs ls hP hD hS (lv_sub hl [0, 1, 2, 3] rfl) hf
    · rw [if_neg (c_4)] at hf
      refine lv_iload_n hx hb dX7_integrate_14 rfl (lv_at hl 3 rfl) ?_
      obtain ⟨r_5, hr_5, hf⟩ := obd hf
      refine cRiS (As := [.int a3]) (rest := []) ⟨hx, hb, hml, hown, hts⟩ (m_X7_isSlot l G cA a3 r_5 hr_5) (cw_X7_isSlot hts wi_735 ⟨Nat.le_of_ble_eq_true rfl, Nat.le_of_ble_eq_true rfl⟩) hK va_Pnil rfl hl.1 rfl (Nat.le_of_ble_eq_true rfl) dX7_integrate_15 ⟨Nat.zero_le _, Nat.zero_le _⟩ ?_
      refine lv_if_eq (tgt := 25) hx hb dX7_integrate_18 (by decide) (fun c_6 => ?_) (fun c_6 => ?_)
      · rw [if_pos (c_6)] at hf
        exact b_X7_integrate_25 qM   C0  zM a1 a2 a3 H locs ls hP hD hS (lv_sub hl [0, 1, 2, 3] rfl) hf
      · rw [if_neg (c_6)] at hf
        refine lv_iconst (v := 1) hx hb dX7_integrate_21 (by decide) ?_
        refine lv_goto (tgt := 26) hx hb dX7_integrate_22 (by decide) ?_
        exact b_X7_integrate_26 qM   C0  zM a1 a2 a3 (1 : Int32) H locs ls hP hD hS (lv_sub hl [0, 1, 2, 3] rfl) hf

set_option maxRecDepth 100000 in
theorem m_X7_integrate (l : Launch) (G : va_G) (cA : Nat → ClassId) (qM : Nat → Nat) (zM : MdS) (a1 : Int32) (a2 : Int32) (a3 : Int32) (res : Int32 × MdS) (hf : f_X7_integrate zM a1 a2 a3 = some res) : MWi l yX7_integrate (.code yX7_integrate cX7_integrate 8 (some .int) :: wd) rm_X7_integrate G cA [.ref (qM 0), .int a1, .int a2, .int a3] ((wMd cA qM zM)) [] ((wMd cA qM res.2)) res.1 := by
  refine Met.ofW (cc := cX7_integrate) (maxL := 8) (ret := (some .int)) (by decide) rfl ?_
  intro p e s m args below meth c s₁ B hml hv
  obtain ⟨rfl, hK, hP, hD0, hR, hRA⟩ := hv
  have C0 : Amb p s m ([.ref (qM 0), .int a1, .int a2, .int a3] : List Value).toArray meth c cX7_integrate RX7 8 (some .int) G cA (adr ((wMd cA qM zM))) [] := ⟨B.exec, B.bytes, B.returns, hml, findClass_of_methodNamed B.named, fun w h => atoms_spec (ws := (.code yX7_integrate cX7_integrate 8 (some .int) :: wd)) B.pre w (List.mem_cons_of_mem _ h), B.notSynchronized, hK, hR, hRA⟩
  have hl := lv_entry ([.ref (qM 0), .int a1, .int a2, .int a3]) (n := 8) (Nat.le_of_ble_eq_true rfl)
  rw [lg_entry_eq]
  generalize (lg_sl ([.ref (qM 0), .int a1, .int a2, .int a3]) ++ List.replicate (8 - (lg_sl ([.ref (qM 0), .int a1, .int a2, .int a3])).length) Slot.unset).toArray = ls at hl ⊢
  have hl : lv_has ls 8 [(0, .ref (qM 0)), (1, .int a1), (2, .int a2), (3, .int a3)] := hl
  exact b_X7_integrate_0 (W9 := ((wMd cA qM zM))) qM   C0 zM a1 a2 a3 s.heap [] ls hP (adr.self hD0) va_S.rf hl hf
theorem cw_X7_integrate {R : Room} {s : State} {args : Array Value} {own : String} {index : Nat} (ht : ∀ w ∈ wd, w.before args s = true) (hlink : Cond.methodLink own index yX7_integrate ∈ wd) (hR : rm_X7_integrate.frames + 1 ≤ R.frames ∧ 8 + (8 + 11) + rm_X7_integrate.locals ≤ R.locals) : CallW R s args own RX7 index yX7_integrate cX7_integrate 8 (some .int) (.code yX7_integrate cX7_integrate 8 (some .int) :: wd) rm_X7_integrate 0 0 3 := cwV9 3 ht wi_873 wi_871 wi_872 wi_60 hlink (by decide +kernel) rfl rfl hR
