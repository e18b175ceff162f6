def rm_X7_want : Room := { frames := 2, cells := 0, slots := 0, locals := 41 }
def f_X7_want (zM : MdS) (a1 : Int32) : Option (MdS) := (f_X7_takes zM a1).bind fun r_1 => if ¬ r_1.1 = 0 then some r_1.2 else (f_X7_wrong r_1.2 (-2 : Int32) (gM_at r_1.2)).bind fun r_3 => some r_3
set_option maxHeartbeats 4000000 in
set_option maxRecDepth 100000 in
theorem b_X7_want_0 {p : Program} {l : Launch} {e : Env} {s : State} {m : MethodId} {args : Array Value} {below : List Frame} {meth : Method} {c : Code} {G : va_G} {cA : Nat → ClassId} {W9 : va_W} (qM : Nat → Nat) (C0 : Amb p s m args meth c cX7_want RX7 2 none G cA (adr W9) []) {res : MdS} : ∀ (zM : MdS) (a1 : Int32) (H : Heap) (locs : List Loc) (ls : Array Slot), va_P G vwCl ((wMd cA qM zM)) H → va_D (adr W9) ((wMd cA qM zM)) → va_S (adr W9) s.heap H locs → lv_has ls 2 [(0, .ref (qM 0)), (1, .int a1)] → f_X7_want zM a1 = some res → W p l e rm_X7_want s m args below meth c H locs 0 0 (MQ below (qWv G W9 ((wMd cA qM res))) args s 0 0 (adr W9)) (F0 m 0 ls []) := by
  obtain ⟨hx, hb, hr, hml, hown, hts, hlocks, hK, hR, hRA⟩ := id C0
  intro zM a1 H locs ls hP hD hS hl hf
  unfold f_X7_want at hf
  refine lv_aload_n hx hb dX7_want_0 rfl (lv_at hl 0 rfl) ?_
  refine lv_iload_n hx hb dX7_want_1 rfl (lv_at hl 1 rfl) ?_
  obtain ⟨r_1, hr_1, hf⟩ := obd hf
  refine cWiV (As := [.int a1]) (rest := []) (W1 := ((wMd cA qM r_1.2))) ⟨hx, hb, hml, hown, hts⟩ (m_X7_takes l G cA qM zM a1 r_1 hr_1) (cw_X7_takes hts wi_742 ⟨Nat.le_of_ble_eq_true rfl, Nat.le_of_ble_eq_true rfl⟩) hK hP hD hS [0, 1, 2, 3, 4] [5, 6, 7, 8, 9] rfl rfl rfl (by decide) rfl va_Pnil dj_nil (va_recv hK.1 hP (ci := 5) (q0 := 0) rfl rfl) rfl hl.1 rfl (Nat.le_of_ble_eq_true rfl) dX7_want_2 ⟨Nat.zero_le _, Nat.zero_le _⟩ (fun H locs hP hD hS => ?_)
  refine lv_if_ne (tgt := 18) hx hb dX7_want_5 (by decide) (fun c_2 => ?_) (fun c_2 => ?_)
  · rw [if_pos (c_2)] at hf
    cases hf
    exact W.vret hx hb hr (fun t ht hW => ⟨⟨(), rfl, trivial, toT ht hP⟩, hS.F ht⟩) hS.2.2 dX7_want_18 hlocks
  · rw [if_neg (not_not_intro c_2)] at hf
    refine lv_aload_n hx hb dX7_want_8 rfl (lv_at hl 0 rfl) ?_
    refine lv_bipush (v := (-2 : Int32)) hx hb dX7_want_9 (by decide) ?_
    refine lv_aload_n hx hb dX7_want_11 rfl (lv_at hl 0 rfl) ?_
    refine va_get (D := G) (ci := 5) (v := .int (gM_at r_1.2)) (C := RX7) (T := TX7) (N := 13) hx hb hts fin_X7 hown hK.1 hP 0 rfl rfl 9 (by decide) (hts _ wi_680) (fun _ h9 => h9) rfl dX7_want_12 ?_
    obtain ⟨r_3, hr_3, hf⟩ := obd hf
    refine cWvV (As := [.int (-2 : Int32), .int (gM_at r_1.2)]) (rest := []) (W1 := ((wMd cA qM r_3))) ⟨hx, hb, hml, hown, hts⟩ (m_X7_wrong l G cA qM r_1.2 (-2 : Int32) (gM_at r_1.2) r_3 hr_3) (cw_X7_wrong hts wi_761 ⟨Nat.le_of_ble_eq_true rfl, Nat.le_of_ble_eq_true rfl⟩) hK hP hD hS [0, 1, 2, 3, 4] [5, 6, 7, 8, 9] rfl rfl rfl (by decide) rfl va_Pnil dj_nil (va_recv hK.1 hP (ci := 5) (q0 := 0) rfl rfl) rfl hl.1 rfl (Nat.le_of_ble_eq_true rfl) dX7_want_15 ⟨Nat.zero_le _, Nat.zero_le _⟩ (fun H locs hP hD hS => ?_)
    cases hf
    exact W.vret hx hb hr (fun t ht hW => ⟨⟨(), rfl, trivial, toT ht hP⟩, hS.F ht⟩) hS.2.2 dX7_want_18 hlocks

set_option maxRecDepth 100000 in
theorem m_X7_want (l : Launch) (G : va_G) (cA : Nat → ClassId) (qM : Nat → Nat) (zM : MdS) (a1 : Int32) (res : MdS) (hf : f_X7_want zM a1 = some res) : MWv l yX7_want (.code yX7_want cX7_want 2 none :: wd) rm_X7_want G cA [.ref (qM 0), .int a1] ((wMd cA qM zM)) [] ((wMd cA qM res)) := by
  refine Met.ofW (cc := cX7_want) (maxL := 2) (ret := none) (by decide) rfl ?_
  intro p e s m args below meth c s₁ B hml hv
  obtain ⟨rfl, hK, hP, hD0, hR, hRA⟩ := hv
  have C0 : Amb p s m ([.ref (qM 0), .int a1] : List Value).toArray meth c cX7_want RX7 2 none G cA (adr ((wMd cA qM zM))) [] := ⟨B.exec, B.bytes, B.returns, hml, findClass_of_methodNamed B.named, fun w h => atoms_spec (ws := (.code yX7_want cX7_want 2 none :: wd)) B.pre w (List.mem_cons_of_mem _ h), B.notSynchronized, hK, hR, hRA⟩
  have hl := lv_entry ([.ref (qM 0), .int a1]) (n := 2) (Nat.le_of_ble_eq_true rfl)
  rw [lg_entry_eq]
  generalize (lg_sl ([.ref (qM 0), .int a1]) ++ List.replicate (2 - (lg_sl ([.ref (qM 0), .int a1])).length) Slot.unset).toArray = ls at hl ⊢
  have hl : lv_has ls 2 [(0, .ref (qM 0)), (1, .int a1)] := hl
  exact b_X7_want_0 (W9 := ((wMd cA qM zM))) qM   C0 zM a1 s.heap [] ls hP (adr.self hD0) va_S.rf hl hf
theorem cw_X7_want {R : Room} {s : State} {args : Array Value} {own : String} {index : Nat} (ht : ∀ w ∈ wd, w.before args s = true) (hlink : Cond.methodLink own index yX7_want ∈ wd) (hR : rm_X7_want.frames + 1 ≤ R.frames ∧ 8 + (2 + 11) + rm_X7_want.locals ≤ R.locals) : CallW R s args own RX7 index yX7_want cX7_want 2 none (.code yX7_want cX7_want 2 none :: wd) rm_X7_want 0 0 1 := cwV9 1 ht wi_768 wi_767 wi_36 wi_60 hlink (by decide +kernel) rfl rfl hR
def rm_X7_readNumber : Room := { frames := 1, cells := 0, slots := 0, locals := 22 }
def f_X7_readNumber_124 (zM : MdS) (x3 : Int32) (x6 : Int32) : Option (Int32 × MdS) := (f_X7_wrong zM (-3 : Int32) x6).bind fun r_1 => some (x3, r_1)
set_option maxHeartbeats 4000000 in
set_option maxRecDepth 100000 in
theorem b_X7_readNumber_124 {p : Program} {l : Launch} {e : Env} {s : State} {m : MethodId} {args : Array Value} {below : List Frame} {meth : Method} {c : Code} {G : va_G} {cA : Nat → ClassId} {W9 : va_W} (qM : Nat → Nat) (C0 : Amb p s m args meth c cX7_readNumber RX7 7 (some .int) G cA (adr W9) []) {res : Int32 × MdS} : ∀ (zM : MdS) (x3 : Int32) (x6 : Int32) (H : Heap) (locs : List Loc) (ls : Array Slot), va_P G vwCl ((wMd cA qM zM)) H → va_D (adr W9) ((wMd cA qM zM)) → va_S (adr W9) s.heap H locs → lv_has ls 7 [(0, .ref (qM 0)), (3, .int x3), (6, .int x6)] → f_X7_readNumber_124 zM x3 x6 = some res → W p l e rm_X7_readNumber s m args below meth c H locs 0 0 (MQ below (qWi G W9 ((wMd cA qM res.2)) res.1) args s 0 0 (adr W9)) (F0 m 124 ls []) := by
  obtain ⟨hx, hb, hr, hml, hown, hts, hlocks, hK, hR, hRA⟩ := id C0
  intro zM x3 x6 H locs ls hP hD hS hl hf
  unfold f_X7_readNumber_124 at hf
  refine lv_aload_n hx hb dX7_readNumber_124 rfl (lv_at hl 0 rfl) ?_
  refine lv_bipush (v := (-3 : Int32)) hx hb dX7_readNumber_125 (by decide) ?_
  refine lv_iload hx hb dX7_readNumber_127 (lv_at hl 2 rfl) ?_
  obtain ⟨r_1, hr_1, hf⟩ := obd hf
  refine cWvV (As := [.int (-3 : Int32), .int x6]) (rest := []) (W1 := ((wMd cA qM r_1))) ⟨hx, hb, hml, hown, hts⟩ (m_X7_wrong l G cA qM zM (-3 : Int32) x6 r_1 hr_1) (cw_X7_wrong hts wi_761 ⟨Nat.le_of_ble_eq_true rfl, Nat.le_of_ble_eq_true rfl⟩) hK hP hD hS [0, 1, 2, 3, 4] [5, 6, 7, 8, 9] rfl rfl rfl (by decide) rfl va_Pnil dj_nil (va_recv hK.1 hP (ci := 5) (q0 := 0) rfl rfl) rfl hl.1 rfl (Nat.le_of_ble_eq_true rfl) dX7_readNumber_129 ⟨Nat.zero_le _, Nat.zero_le _⟩ (fun H locs hP hD hS => ?_)
  refine lv_iload_n hx hb dX7_readNumber_132 rfl (lv_at hl 1 rfl) ?_
  cases hf
  exact W.iret hx hb hr (fun t ht hW => ⟨⟨_, (), rfl, rfl, toT ht hP⟩, hS.F ht⟩) hS.2.2 dX7_readNumber_133 hlocks
def f_X7_readNumber_92 (zM : MdS) (x1 : Int32) (x2 : Int32) (x3 : Int32) (x4 : Int32) (x6 : Int32) : Option (Int32 × MdS) := if ¬ x4 = 0 then if x3 < x1 then f_X7_readNumber_124  zM x3 x6 else if x2 < 0 then some (x3, zM) else if x3 ≤ x2 then some (x3, zM) else f_X7_readNumber_124  zM x3 x6 else (f_X7_wrong zM (-2 : Int32) (gM_at zM)).bind fun r_5 => some (x3, r_5)
set_option maxHeartbeats 4000000 in
set_option maxRecDepth 100000 in
theorem b_X7_readNumber_92 {p : Program} {l : Launch} {e : Env} {s : State} {m : MethodId} {args : Array Value} {below : List Frame} {meth : Method} {c : Code} {G : va_G} {cA : Nat → ClassId} {W9 : va_W} (qM : Nat → Nat) (C0 : Amb p s m args meth c cX7_readNumber RX7 7 (some .int) G cA (adr W9) []) {res : Int32 × MdS} : ∀ (zM : MdS) (x1 : Int32) (x2 : Int32) (x3 : Int32) (x4 : Int32) (x6 : Int32) (H : Heap) (locs : List Loc) (ls : Array Slot), va_P G vwCl ((wMd cA qM zM)) H → va_D (adr W9) ((wMd cA qM zM)) → va_S (adr W9) s.heap H locs → lv_has ls 7 [(0, .ref (qM 0)), (1, .int x1), (2, .int x2), (3, .int x3), (4, .int x4), (6, .int x6)] → f_X7_readNumber_92 zM x1 x2 x3 x4 x6 = some res → W p l e rm_X7_readNumber s m args below meth c H locs 0 0 (MQ below (qWi G W9 ((wMd cA qM res.2)) res.1) args s 0 0 (adr W9)) (F0 m 92 ls []) := by
  obtain ⟨hx, hb, hr, hml, hown, hts, hlocks, hK, hR, hRA⟩ := id C0
  intro zM x1 x2 x3 x4 x6 H locs ls hP hD hS hl hf
  unfold f_X7_readNumber_92 at hf
  refine lv_iload hx hb dX7_readNumber_92 (lv_at hl 4 rfl) ?_
  refine lv_if_ne (tgt := 110) hx hb dX7_readNumber_94 (by decide) (fun c_1 => ?_) (fun c_1 => ?_)
  · rw [if_pos (c_1)] at hf
    refine lv_iload_n hx hb dX7_readNumber_110 rfl (lv_at hl 3 rfl) ?_
    refine lv_iload_n hx hb dX7_readNumber_111 rfl (lv_at hl 1 rfl) ?_
    refine lv_icmp_lt (tgt := 124) hx hb dX7_readNumber_112 (by decide) (fun c_2 => ?_) (fun c_2 => ?_)
    · rw [if_pos (c_2)] at hf
      exact b_X7_readNumber_124 qM   C0  zM x3 x6 H locs ls hP hD hS (lv_sub hl [0, 3, 5] rfl) hf
    · rw [if_neg (c_2)] at hf
      refine lv_iload_n hx hb dX7_readNumber_115 rfl (lv_at hl 2 rfl) ?_
      refine lv_if_lt (tgt := 132) hx hb dX7_readNumber_116 (by decide) (fun c_3 => ?_) (fun c_3 => ?_)
      · rw [if_pos (c_3)] at hf
        refine lv_iload_n hx hb dX7_readNumber_132 rfl (lv_at hl 3 rfl) ?_
        cases hf
        exact W.iret hx hb hr (fun t ht hW => ⟨⟨_, (), rfl, rfl, toT ht hP⟩, hS.F ht⟩) hS.2.2 dX7_readNumber_133 hlocks
      · rw [if_neg (c_3)] at hf
        refine lv_iload_n hx hb dX7_readNumber_119 rfl (lv_at hl 3 rfl) ?_
        refine lv_iload_n hx hb dX7_readNumber_120 rfl (lv_at hl 2 rfl) ?_
        refine lv_icmp_le (tgt := 132) hx hb dX7_readNumber_121 (by decide) (fun c_4 => ?_) (fun c_4 => ?_)
        · rw [if_pos (c_4)] at hf
          refine lv_iload_n hx hb dX7_readNumber_132 rfl (lv_at hl 3 rfl) ?_
          cases hf
          exact W.iret hx hb hr (fun t ht hW => ⟨⟨_, (), rfl, rfl, toT ht hP⟩, hS.F ht⟩) hS.2.2 dX7_readNumber_133 hlocks
        · rw [if_neg (c_4)] at hf
          exact b_X7_readNumber_124 qM   C0  zM x3 x6 H locs ls hP hD hS (lv_sub hl [0, 3, 5] rfl) hf
  · rw [if_neg (not_not_intro c_1)] at hf
    refine lv_aload_n hx hb dX7_readNumber_97 rfl (lv_at hl 0 rfl) ?_
    refine lv_bipush (v := (-2 : Int32)) hx hb dX7_readNumber_98 (by decide) ?_
    refine lv_aload_n hx hb dX7_readNumber_100 rfl (lv_at hl 0 rfl) ?_
    refine va_get (D := G) (ci := 5) (v := .int (gM_at zM)) (C := RX7) (T := TX7) (N := 13) hx hb hts fin_X7 hown hK.1 hP 0 rfl rfl 9 (by decide) (hts _ wi_680) (fun _ h9 => h9) rfl dX7_readNumber_101 ?_
    obtain ⟨r_5, hr_5, hf⟩ := obd hf
    refine cWvV (As := [.int (-2 : Int32), .int (gM_at zM)]) (rest := []) (W1 := ((wMd cA qM r_5))) ⟨hx, hb, hml, hown, hts⟩ (m_X7_wrong l G cA qM zM (-2 : Int32) (gM_at zM) r_5 hr_5) (cw_X7_wrong hts wi_761 ⟨Nat.le_of_ble_eq_true rfl, Nat.le_of_ble_eq_true rfl⟩) hK hP hD hS [0, 1, 2, 3, 4] [5, 6, 7, 8, 9] rfl rfl rfl (by decide) rfl va_Pnil dj_nil (va_recv hK.1 hP (ci := 5) (q0 := 0) rfl rfl) rfl hl.1 rfl (Nat.le_of_ble_eq_true rfl) dX7_readNumber_104 ⟨Nat.zero_le _, Nat.zero_le _⟩ (fun H locs hP hD hS => ?_)
    refine lv_goto (tgt := 132) hx hb dX7_readNumber_107 (by decide) ?_
    refine lv_iload_n hx hb dX7_readNumber_132 rfl (lv_at hl 3 rfl) ?_
    cases hf
    exact W.iret hx hb hr (fun t ht hW => ⟨⟨_, (), rfl, rfl, toT ht hP⟩, hS.F ht⟩) hS.2.2 dX7_readNumber_133 hlocks
def f_X7_readNumber_26  : Nat → MdS → Int32 → Int32 → Int32 → Int32 → Int32 → Option (Int32 × MdS)
  | 0, _, _, _, _, _, _ => none
  | fu + 1, zM, x1, x2, x3, x4, x6 => if (3 : Int32) ≤ x4 then f_X7_readNumber_92  zM x1 x2 x3 x4 x6 else if (gM_lineSize zM) ≤ (gM_at zM) then f_X7_readNumber_92  zM x1 x2 x3 x4 x6 else if inb (gM_at zM) 100 = true then (f_X7_isDigit (gM_line zM (gM_at zM).toNatClampNeg)).bind fun r_4 => if r_4 = 0 then f_X7_readNumber_92  zM x1 x2 x3 x4 x6 else if inb (gM_at zM) 100 = true then (some (((((10 : Int32) * x3) + (gM_line zM (gM_at zM).toNatClampNeg)) - (48 : Int32)))).bind fun y_7 => f_X7_readNumber_26  fu (uM_at zM ((gM_at zM) + (1 : Int32))) x1 x2 y_7 (x4 + 1) x6 else none else none
set_option maxHeartbeats 4000000 in
set_option maxRecDepth 100000 in
theorem b_X7_readNumber_26 {p : Program} {l : Launch} {e : Env} {s : State} {m : MethodId} {args : Array Value} {below : List Frame} {meth : Method} {c : Code} {G : va_G} {cA : Nat → ClassId} {W9 : va_W} (qM : Nat → Nat) (C0 : Amb p s m args meth c cX7_readNumber RX7 7 (some .int) G cA (adr W9) []) {res : Int32 × MdS} : ∀ (fu : Nat) (zM : MdS) (x1 : Int32) (x2 : Int32) (x3 : Int32) (x4 : Int32) (x6 : Int32) (H : Heap) (locs : List Loc) (ls : Array Slot), va_P G vwCl ((wMd cA qM zM)) H → va_D (adr W9) ((wMd cA qM zM)) → va_S (adr W9) s.heap H locs → lv_has ls 7 [(0, .ref (qM 0)), (1, .int x1), (2, .int x2), (3, .int x3), (4, .int x4), (6, .int x6)] → f_X7_readNumber_26 fu zM x1 x2 x3 x4 x6 = some res → W p l e rm_X7_readNumber s m args below meth c H locs 0 0 (MQ below (qWi G W9 ((wMd cA qM res.2)) res.1) args s 0 0 (adr W9)) (F0 m 26 ls []) := by
  obtain ⟨hx, hb, hr, hml, hown, hts, hlocks, hK, hR, hRA⟩ := id C0
  intro fu
  induction fu with
  | zero =>
    intro zM x1 x2 x3 x4 x6 H locs ls hP hD hS hl hf
    rw [f_X7_readNumber_26] at hf
    cases hf
  | succ fu ih =>
    intro zM x1 x2 x3 x4 x6 H locs ls hP hD hS hl hf
    rw [f_X7_readNumber_26] at hf
    refine lv_iload hx hb dX7_readNumber_26 (lv_at hl 4 rfl) ?_
    refine lv_iconst (v := 3) hx hb dX7_readNumber_28 (by decide) ?_
    refine lv_icmp_ge (tgt := 92) hx hb dX7_readNumber_29 (by decide) (fun c_1 => ?_) (fun c_1 => ?_)
    · rw [if_pos (c_1)] at hf
      exact b_X7_readNumber_92 qM   C0  zM x1 x2 x3 x4 x6 H locs ls hP hD hS (lv_sub hl [0, 1, 2, 3, 4, 5] rfl) hf
    · rw [if_neg (c_1)] at hf
      refine lv_aload_n hx hb dX7_readNumber_32 rfl (lv_at hl 0 rfl) ?_
      refine va_get (D := G) (ci := 5) (v := .int (gM_at zM)) (C := RX7) (T := TX7) (N := 13) hx hb hts fin_X7 hown hK.1 hP 0 rfl rfl 9 (by decide) (hts _ wi_680) (fun _ h9 => h9) rfl dX7_readNumber_33 ?_
      refine lv_aload_n hx hb dX7_readNumber_36 rfl (lv_at hl 0 rfl) ?_
      refine va_get (D := G) (ci := 5) (v := .int (gM_lineSize zM)) (C := RX7) (T := TX7) (N := 13) hx hb hts fin_X7 hown hK.1 hP 0 rfl rfl 2 (by decide) (hts _ wi_673) (fun _ h9 => h9) rfl dX7_readNumber_37 ?_
      refine lv_icmp_ge (tgt := 92) hx hb dX7_readNumber_40 (by decide) (fun c_2 => ?_) (fun c_2 => ?_)
      · rw [if_pos (c_2)] at hf
        exact b_X7_readNumber_92 qM   C0  zM x1 x2 x3 x4 x6 H locs ls hP hD hS (lv_sub hl [0, 1, 2, 3, 4, 5] rfl) hf
      · rw [if_neg (c_2)] at hf
        refine lv_aload_n hx hb dX7_readNumber_43 rfl (lv_at hl 0 rfl) ?_
        refine va_get (D := G) (ci := 5) (v := .ref (qM 1)) (C := RX7) (T := TX7) (N := 13) hx hb hts fin_X7 hown hK.1 hP 0 rfl rfl 1 (by decide) (hts _ wi_672) (fun _ h9 => h9) rfl dX7_readNumber_44 ?_
        refine lv_aload_n hx hb dX7_readNumber_47 rfl (lv_at hl 0 rfl) ?_
        refine va_get (D := G) (ci := 5) (v := .int (gM_at zM)) (C := RX7) (T := TX7) (N := 13) hx hb hts fin_X7 hown hK.1 hP 0 rfl rfl 9 (by decide) (hts _ wi_680) (fun _ h9 => h9) rfl dX7_readNumber_48 ?_
        obtain ⟨hi_3, hf⟩ := oif hf
        refine va_cald hx hb hK.1 hP 1 2 rfl rfl (inb_in hi_3) dX7_readNumber_51 ?_
        obtain ⟨r_4, hr_4, hf⟩ := obd hf
        refine cRiS (As := [.int (gM_line zM (gM_at zM).toNatClampNeg)]) (rest := []) ⟨hx, hb, hml, hown, hts⟩ (m_X7_isDigit l G cA (gM_line zM (gM_at zM).toNatClampNeg) r_4 hr_4) (cw_X7_isDigit hts wi_754 ⟨Nat.le_of_ble_eq_true rfl, Nat.le_of_ble_eq_true rfl⟩) hK va_Pnil rfl hl.1 rfl (Nat.le_of_ble_eq_true rfl) dX7_readNumber_52 ⟨Nat.zero_le _, Nat.zero_le _⟩ ?_
        refine lv_if_eq (tgt := 92) hx hb dX7_readNumber_55 (by decide) (fun c_5 => ?_) (fun c_5 => ?_)
        · rw [if_pos (c_5)] at hf
          exact b_X7_readNumber_92 qM   C0  zM x1 x2 x3 x4 x6 H locs ls hP hD hS (lv_sub hl [0, 1, 2, 3, 4, 5] rfl) hf
        · rw [if_neg (c_5)] at hf
          refine lv_bipush (v := (10 : Int32)) hx hb dX7_readNumber_58 (by decide) ?_
          refine lv_iload_n hx hb dX7_readNumber_60 rfl (lv_at hl 3 rfl) ?_
          refine lv_imul hx hb dX7_readNumber_61 ?_
          refine lv_aload_n hx hb dX7_readNumber_62 rfl (lv_at hl 0 rfl) ?_
          refine va_get (D := G) (ci := 5) (v := .ref (qM 1)) (C := RX7) (T := TX7) (N := 13) hx hb hts fin_X7 hown hK.1 hP 0 rfl rfl 1 (by decide) (hts _ wi_672) (fun _ h9 => h9) rfl dX7_readNumber_63 ?_
          refine lv_aload_n hx hb dX7_readNumber_66 rfl (lv_at hl 0 rfl) ?_
          refine va_get (D := G) (ci := 5) (v := .int (gM_at zM)) (C := RX7) (T := TX7) (N := 13) hx hb hts fin_X7 hown hK.1 hP 0 rfl rfl 9 (by decide) (hts _ wi_680) (fun _ h9 => h9) rfl dX7_readNumber_67 ?_
          obtain ⟨hi_6, hf⟩ := oif hf
          refine va_cald hx hb hK.1 hP 1 2 rfl rfl (inb_in hi_6) dX7_readNumber_70 ?_
          refine lv_iadd hx hb dX7_readNumber_71 ?_
          refine lv_bipush (v := (48 : Int32)) hx hb dX7_readNumber_72 (by decide) ?_
          refine lv_isub hx hb dX7_readNumber_74 ?_
          obtain ⟨y_7, hq, hf⟩ := obd hf
          have hy_7 : ((((10 : Int32) * x3) + (gM_line zM (gM_at zM).toNatClampNeg)) - (48 : Int32)) = y_7 := Option.some.inj hq
          rw [hy_7]
          refine lv_istore_n (lv' := [(3, .int y_7), (0, .ref (qM 0)), (1, .int x1), (2, .int x2), (4, .int x4), (6, .int x6)]) hx hb dX7_readNumber_75 rfl hl (by decide) rfl (fun ls hl => ?_)
          refine lv_aload_n hx hb dX7_readNumber_76 rfl (lv_at hl 1 rfl) ?_
          refine lv_dup hx hb dX7_readNumber_77 rfl ?_
          refine va_get (D := G) (ci := 5) (v := .int (gM_at zM)) (C := RX7) (T := TX7) (N := 13) hx hb hts fin_X7 hown hK.1 hP 0 rfl rfl 9 (by decide) (hts _ wi_680) (fun _ h9 => h9) rfl dX7_readNumber_78 ?_
          refine lv_iconst (v := 1) hx hb dX7_readNumber_81 (by decide) ?_
          refine lv_iadd hx hb dX7_readNumber_82 ?_
          refine va_put (D := G) (ci := 5) (v := .int ((gM_at zM) + (1 : Int32))) (ty := .int) (C := RX7) (T := TX7) (N := 13) hx hb hts fin_X7 tyX7 tyX7_ok nmX7 hown hK.1 hP hD hS 0 rfl rfl 9 (by decide) (hts _ wi_680) (fun _ h9 => h9) rfl (by decide +kernel) rfl rfl (Nat.le_of_ble_eq_true rfl) dX7_readNumber_83 (fun H locs hP hD hS => ?_)
          have hP := sM_at_P hP
          have hD := sM_at_D hD
          refine lv_iinc (v := (x4 + 1)) (lv' := [(4, .int (x4 + 1)), (3, .int y_7), (0, .ref (qM 0)), (1, .int x1), (2, .int x2), (6, .int x6)]) hx hb dX7_readNumber_86 hl (k := 4) rfl rfl (by decide) rfl (fun ls hl => ?_)
          refine lv_goto (tgt := 26) hx hb dX7_readNumber_89 (by decide) ?_
          exact ih (uM_at zM ((gM_at zM) + (1 : Int32))) x1 x2 y_7 (x4 + 1) x6 H locs ls hP hD hS (lv_sub hl [2, 3, 4, 1, 0, 5] rfl) hf
def f_X7_readNumber (zM : MdS) (a1 : Int32) (a2 : Int32) : Option (Int32 × MdS) := if (gM_fault zM) = 0 then (f_X7_next zM).bind fun r_2 => (some ((gM_at r_2.2))).bind fun y_3 => f_X7_readNumber_26 fuel r_2.2 a1 a2 (0 : Int32) (0 : Int32) y_3 else some ((0 : Int32), zM)
set_option maxHeartbeats 4000000 in
set_option maxRecDepth 100000 in
theorem b_X7_readNumber_0 {p : Program} {l : Launch} {e : Env} {s : State} {m : MethodId} {args : Array Value} {below : List Frame} {meth : Method} {c : Code} {G : va_G} {cA : Nat → ClassId} {W9 : va_W} (qM : Nat → Nat) (C0 : Amb p s m args meth c cX7_readNumber RX7 7 (some .int) G cA (adr W9) []) {res : Int32 × MdS} : ∀ (zM : MdS) (a1 : Int32) (a2 : Int32) (H : Heap) (locs : List Loc) (ls : Array Slot), va_P G vwCl ((wMd cA qM zM)) H → va_D (adr W9) ((wMd cA qM zM)) → va_S (adr W9) s.heap H locs → lv_has ls 7 [(0, .ref (qM 0)), (1, .int a1), (2, .int a2)] → f_X7_readNumber zM a1 a2 = some res → W p l e rm_X7_readNumber s m args below meth c H locs 0 0 (MQ below (qWi G W9 ((wMd cA qM res.2)) res.1) args s 0 0 (adr W9)) (F0 m 0 ls []) := by
  obtain ⟨hx, hb, hr, hml, hown, hts, hlocks, hK, hR, hRA⟩ := id C0
  intro zM a1 a2 H locs ls hP hD hS hl hf
  unfold f_X7_readNumber at hf
  refine lv_aload_n hx hb dX7_readNumber_0 rfl (lv_at hl 0 rfl) ?_
  refine va_get (D := G) (ci := 5) (v := .int (gM_fault zM)) (C := RX7) (T := TX7) (N := 13) hx hb hts fin_X7 hown hK.1 hP 0 rfl rfl 10 (by decide) (hts _ wi_681) (fun _ h9 => h9) rfl dX7_readNumber_1 ?_
  refine lv_if_eq (tgt := 9) hx hb dX7_readNumber_4 (by decide) (fun c_1 => ?_) (fun c_1 => ?_)
  · rw [if_pos (c_1)] at hf
    refine lv_iconst (v := 0) hx hb dX7_readNumber_9 (by decide) ?_
    refine lv_istore_n (lv' := [(3, .int (0 : Int32)), (0, .ref (qM 0)), (1, .int a1), (2, .int a2)]) hx hb dX7_readNumber_10 rfl hl (by decide) rfl (fun ls hl => ?_)
    refine lv_iconst (v := 0) hx hb dX7_readNumber_11 (by decide) ?_
    refine lv_istore (lv' := [(4, .int (0 : Int32)), (3, .int (0 : Int32)), (0, .ref (qM 0)), (1, .int a1), (2, .int a2)]) hx hb dX7_readNumber_12 hl (by decide) rfl (fun ls hl => ?_)
    refine lv_aload_n hx hb dX7_readNumber_14 rfl (lv_at hl 2 rfl) ?_
    obtain ⟨r_2, hr_2, hf⟩ := obd hf
    refine cWiV (As := []) (rest := []) (W1 := ((wMd cA qM r_2.2))) ⟨hx, hb, hml, hown, hts⟩ (m_X7_next l G cA qM zM r_2 hr_2) (cw_X7_next hts wi_746 ⟨Nat.le_of_ble_eq_true rfl, Nat.le_of_ble_eq_true rfl⟩) hK hP hD hS [0, 1, 2, 3, 4] [5, 6, 7, 8, 9] rfl rfl rfl (by decide) rfl va_Pnil dj_nil (va_recv hK.1 hP (ci := 5) (q0 := 0) rfl rfl) rfl hl.1 rfl (Nat.le_of_ble_eq_true rfl) dX7_readNumber_15 ⟨Nat.zero_le _, Nat.zero_le _⟩ (fun H locs hP hD hS => ?_)
    refine lv_istore (lv' := [(5, .int r_2.1), (4, .int (0 : Int32)), (3, .int (0 : Int32)), (0, .ref (qM 0)), (1, .int a1), (2, .int a2)]) hx hb dX7_readNumber_18 hl (by decide) rfl (fun ls hl => ?_)
    refine lv_aload_n hx hb dX7_readNumber_20 rfl (lv_at hl 3 rfl) ?_
    refine va_get (D := G) (ci := 5) (v := .int (gM_at r_2.2)) (C := RX7) (T := TX7) (N := 13) hx hb hts fin_X7 hown hK.1 hP 0 rfl rfl 9 (by decide) (hts _ wi_680) (fun _ h9 => h9) rfl dX7_readNumber_21 ?_
    obtain ⟨y_3, hq, hf⟩ := obd hf
    have hy_3 : (gM_at r_2.2) = y_3 := Option.some.inj hq
    rw [hy_3]
    refine lv_istore (lv' := [(6, .int y_3), (5, .int r_2.1), (4, .int (0 : Int32)), (3, .int (0 : Int32)), (0, .ref (qM 0)), (1, .int a1), (2, .int a2)]) hx hb dX7_readNumber_24 hl (by decide) rfl (fun ls hl => ?_)
    exact b_X7_readNumber_26 qM   C0  fuel r_2.2 a1 a2 (0 : Int32) (0 : Int32) y_3 H locs ls hP hD hS (lv_sub hl [4, 5, 6, 3, 2, 0] rfl) hf
  · rw [if_neg (c_1)] at hf
    refine lv_iconst (v := 0) hx hb dX7_readNumber_7 (by decide) ?_
    cases hf
    exact W.iret hx hb hr (fun t ht hW => ⟨⟨_, (), rfl, rfl, toT ht hP⟩, hS.F ht⟩) hS.2.2 dX7_readNumber_8 hlocks

set_option maxRecDepth 100000 in
theorem m_X7_readNumber (l : Launch) (G : va_G) (cA : Nat → ClassId) (qM : Nat → Nat) (zM : MdS) (a1 : Int32) (a2 : Int32) (res : Int32 × MdS) (hf : f_X7_readNumber zM a1 a2 = some res) : MWi l yX7_readNumber (.code yX7_readNumber cX7_readNumber 7 (some .int) :: wd) rm_X7_readNumber G cA [.ref (qM 0), .int a1, .int a2] ((wMd cA qM zM)) [] ((wMd cA qM res.2)) res.1 := by
  refine Met.ofW (cc := cX7_readNumber) (maxL := 7) (ret := (some .int)) (by decide) rfl ?_
  intro p e s m args below meth c s₁ B hml hv
  obtain ⟨rfl, hK, hP, hD0, hR, hRA⟩ := hv
  have C0 : Amb p s m ([.ref (qM 0), .int a1, .int a2] : List Value).toArray meth c cX7_readNumber RX7 7 (some .int) G cA (adr ((wMd cA qM zM))) [] := ⟨B.exec, B.bytes, B.returns, hml, findClass_of_methodNamed B.named, fun w h => atoms_spec (ws := (.code yX7_readNumber cX7_readNumber 7 (some .int) :: wd)) B.pre w (List.mem_cons_of_mem _ h), B.notSynchronized, hK, hR, hRA⟩
  have hl := lv_entry ([.ref (qM 0), .int a1, .int a2]) (n := 7) (Nat.le_of_ble_eq_true rfl)
  rw [lg_entry_eq]
  generalize (lg_sl ([.ref (qM 0), .int a1, .int a2]) ++ List.replicate (7 - (lg_sl ([.ref (qM 0), .int a1, .int a2])).length) Slot.unset).toArray = ls at hl ⊢
  have hl : lv_has ls 7 [(0, .ref (qM 0)), (1, .int a1), (2, .int a2)] := hl
  exact b_X7_readNumber_0 (W9 := ((wMd cA qM zM))) qM   C0 zM a1 a2 s.heap [] ls hP (adr.self hD0) va_S.rf hl hf
theorem cw_X7_readNumber {R : Room} {s : State} {args : Array Value} {own : String} {index : Nat} (ht : ∀ w ∈ wd, w.before args s = true) (hlink : Cond.methodLink own index yX7_readNumber ∈ wd) (hR : rm_X7_readNumber.frames + 1 ≤ R.frames ∧ 8 + (7 + 11) + rm_X7_readNumber.locals ≤ R.locals) : CallW R s args own RX7 index yX7_readNumber cX7_readNumber 7 (some .int) (.code yX7_readNumber cX7_readNumber 7 (some .int) :: wd) rm_X7_readNumber 0 0 2 := cwV9 2 ht wi_760 wi_759 wi_34 wi_60 hlink (by decide +kernel) rfl rfl hR
def rm_X7_checkAll : Room := { frames := 1, cells := 0, slots := 0, locals := 21 }
def f_X7_checkAll_38 (kb_4 : MdS → Int32 → Option (MdS)) (zM : MdS) (x1 : Int32) : Option (MdS) := kb_4 zM (x1 + 1)
set_option maxHeartbeats 4000000 in
set_option maxRecDepth 100000 in
theorem b_X7_checkAll_38 {p : Program} {l : Launch} {e : Env} {s : State} {m : MethodId} {args : Array Value} {below : List Frame} {meth : Method} {c : Code} {G : va_G} {cA : Nat → ClassId} {W9 : va_W} (qM : Nat → Nat) (C0 : Amb p s m args meth c cX7_checkAll RX7 2 none G cA (adr W9) []) {res : MdS} (kb_4 : MdS → Int32 → Option (MdS)) (hkb_4 : ∀ (zM : MdS) (x1 : Int32) (H : Heap) (locs : List Loc) (ls : Array Slot), va_P G vwCl ((wMd cA qM zM)) H → va_D (adr W9) ((wMd cA qM zM)) → va_S (adr W9) s.heap H locs → lv_has ls 2 [(0, .ref (qM 0)), (1, .int x1)] → kb_4 zM x1 = some res → W p l e rm_X7_checkAll s m args below meth c H locs 0 0 (MQ below (qWv G W9 ((wMd cA qM res))) args s 0 0 (adr W9)) (F0 m 4 ls [])) : ∀ (zM : MdS) (x1 : Int32) (H : Heap) (locs : List Loc) (ls : Array Slot), va_P G vwCl ((wMd cA qM zM)) H → va_D (adr W9) ((wMd cA qM zM)) → va_S (adr W9) s.heap H locs → lv_has ls 2 [(0, .ref (qM 0)), (1, .int x1)] → f_X7_checkAll_38 kb_4 zM x1 = some res → W p l e rm_X7_checkAll s m args below meth c H locs 0 0 (MQ below (qWv G W9 ((wMd cA qM res))) args s 0 0 (adr W9)) (F0 m 38 ls []) := by
  obtain ⟨hx, hb, hr, hml, hown, hts, hlocks, hK, hR, hRA⟩ := id C0
  intro zM x1 H locs ls hP hD hS hl hf
  unfold f_X7_checkAll_38 at hf
  refine lv_iinc (v := (x1 + 1)) (lv' := [(1, .int (x1 + 1)), (0, .ref (qM 0))]) hx hb dX7_checkAll_38 hl (k := 1) rfl rfl (by decide) rfl (fun ls hl => ?_)
  refine lv_goto (tgt := 4) hx hb dX7_checkAll_41 (by decide) ?_
  exact hkb_4 zM (x1 + 1) H locs ls hP hD hS (lv_sub hl [1, 0] rfl) hf
def f_X7_checkAll_4  : Nat → MdS → Int32 → Option (MdS)
  | 0, _, _ => none
  | fu + 1, zM, x1 => if (10350 : Int32) ≤ x1 then some zM else (f_X7_isOut zM x1).bind fun r_2 => if r_2 = 0 then f_X7_checkAll_38 (fun zM_ x1_ => f_X7_checkAll_4  fu zM_ x1_) zM x1 else if inb x1 nUD = true then if inb x1 nUD = true then f_X7_checkAll_38 (fun zM_ x1_ => f_X7_checkAll_4  fu zM_ x1_) (uM_down (uM_up (uM_isFull zM (1 : Int32)) (vp_updL (gM_up (uM_isFull zM (1 : Int32))) x1.toNatClampNeg (0 : Int64))) (vp_updL (gM_down (uM_up (uM_isFull zM (1 : Int32)) (vp_updL (gM_up (uM_isFull zM (1 : Int32))) x1.toNatClampNeg (0 : Int64)))) x1.toNatClampNeg (1 : Int64))) x1 else none else none
set_option maxHeartbeats 4000000 in
set_option maxRecDepth 100000 in
theorem b_X7_checkAll_4 {p : Program} {l : Launch} {e : Env} {s : State} {m : MethodId} {args : Array Value} {below : List Frame} {meth : Method} {c : Code} {G : va_G} {cA : Nat → ClassId} {W9 : va_W} (qM : Nat → Nat) (C0 : Amb p s m args meth c cX7_checkAll RX7 2 none G cA (adr W9) []) {res : MdS} : ∀ (fu : Nat) (zM : MdS) (x1 : Int32) (H : Heap) (locs : List Loc) (ls : Array Slot), va_P G vwCl ((wMd cA qM zM)) H → va_D (adr W9) ((wMd cA qM zM)) → va_S (adr W9) s.heap H locs → lv_has ls 2 [(0, .ref (qM 0)), (1, .int x1)] → f_X7_checkAll_4 fu zM x1 = some res → W p l e rm_X7_checkAll s m args below meth c H locs 0 0 (MQ below (qWv G W9 ((wMd cA qM res))) args s 0 0 (adr W9)) (F0 m 4 ls []) := by
  obtain ⟨hx, hb, hr, hml, hown, hts, hlocks, hK, hR, hRA⟩ := id C0
  intro fu
  induction fu with
  | zero =>
    intro zM x1 H locs ls hP hD hS hl hf
    rw [f_X7_checkAll_4] at hf
    cases hf
  | succ fu ih =>
    intro zM x1 H locs ls hP hD hS hl hf
    rw [f_X7_checkAll_4] at hf
    refine lv_iload_n hx hb dX7_checkAll_4 rfl (lv_at hl 1 rfl) ?_
    refine lv_sipush (v := (10350 : Int32)) hx hb dX7_checkAll_5 (by decide) ?_
    refine lv_icmp_ge (tgt := 44) hx hb dX7_checkAll_8 (by decide) (fun c_1 => ?_) (fun c_1 => ?_)
    · rw [if_pos (c_1)] at hf
      cases hf
      exact W.vret hx hb hr (fun t ht hW => ⟨⟨(), rfl, trivial, toT ht hP⟩, hS.F ht⟩) hS.2.2 dX7_checkAll_44 hlocks
    · rw [if_neg (c_1)] at hf
      refine lv_aload_n hx hb dX7_checkAll_11 rfl (lv_at hl 0 rfl) ?_
      refine lv_iload_n hx hb dX7_checkAll_12 rfl (lv_at hl 1 rfl) ?_
      obtain ⟨r_2, hr_2, hf⟩ := obd hf
      refine cRiV (As := [.int x1]) (rest := []) ⟨hx, hb, hml, hown, hts⟩ (m_X7_isOut l G cA qM zM x1 r_2 hr_2) (cw_X7_isOut hts wi_783 ⟨Nat.le_of_ble_eq_true rfl, Nat.le_of_ble_eq_true rfl⟩) hK (pk hP [0, 1, 2, 3, 4] rfl) (va_recv hK.1 hP (ci := 5) (q0 := 0) rfl rfl) rfl hl.1 rfl (Nat.le_of_ble_eq_true rfl) dX7_checkAll_13 ⟨Nat.zero_le _, Nat.zero_le _⟩ ?_
      refine lv_if_eq (tgt := 38) hx hb dX7_checkAll_16 (by decide) (fun c_3 => ?_) (fun c_3 => ?_)
      · rw [if_pos (c_3)] at hf
        exact b_X7_checkAll_38 qM   C0 (fun zM_ x1_ => f_X7_checkAll_4  fu zM_ x1_) ih zM x1 H locs ls hP hD hS (lv_sub hl [0, 1] rfl) hf
      · rw [if_neg (c_3)] at hf
        refine lv_aload_n hx hb dX7_checkAll_19 rfl (lv_at hl 0 rfl) ?_
        refine lv_iconst (v := 1) hx hb dX7_checkAll_20 (by decide) ?_
        refine va_put (D := G) (ci := 5) (v := .int (1 : Int32)) (ty := .boolean) (C := RX7) (T := TX7) (N := 13) hx hb hts fin_X7 tyX7 tyX7_ok nmX7 hown hK.1 hP hD hS 0 rfl rfl 8 (by decide) (hts _ wi_679) (fun _ h9 => h9) rfl (by decide +kernel) (by decide) (by decide) (Nat.le_of_ble_eq_true rfl) dX7_checkAll_21 (fun H locs hP hD hS => ?_)
        have hP := sM_isFull_P hP
        have hD := sM_isFull_D hD
        refine lv_aload_n hx hb dX7_checkAll_24 rfl (lv_at hl 0 rfl) ?_
        refine va_get (D := G) (ci := 5) (v := .ref (qM 3)) (C := RX7) (T := TX7) (N := 13) hx hb hts fin_X7 hown hK.1 hP 0 rfl rfl 6 (by decide) (hts _ wi_677) (fun _ h9 => h9) rfl dX7_checkAll_25 ?_
        refine lv_iload_n hx hb dX7_checkAll_28 rfl (lv_at hl 1 rfl) ?_
        refine lv_lconst (v := (0 : Int64)) hx hb dX7_checkAll_29 (by decide) ?_
        obtain ⟨hi_4, hf⟩ := oif hf
        refine va_last hx hb hK.1 hP hD hS 3 1 rfl rfl (inb_in hi_4) dX7_checkAll_30 (fun H locs hP hD hS => ?_)
        have hP := sM_up_P hP
        have hD := sM_up_D hD
        refine lv_aload_n hx hb dX7_checkAll_31 rfl (lv_at hl 0 rfl) ?_
        refine va_get (D := G) (ci := 5) (v := .ref (qM 4)) (C := RX7) (T := TX7) (N := 13) hx hb hts fin_X7 hown hK.1 hP 0 rfl rfl 7 (by decide) (hts _ wi_678) (fun _ h9 => h9) rfl dX7_checkAll_32 ?_
        refine lv_iload_n hx hb dX7_checkAll_35 rfl (lv_at hl 1 rfl) ?_
        refine lv_lconst (v := (1 : Int64)) hx hb dX7_checkAll_36 (by decide) ?_
        obtain ⟨hi_5, hf⟩ := oif hf
        refine va_last hx hb hK.1 hP hD hS 4 1 rfl rfl (inb_in hi_5) dX7_checkAll_37 (fun H locs hP hD hS => ?_)
        have hP := sM_down_P hP
        have hD := sM_down_D hD
        exact b_X7_checkAll_38 qM   C0 (fun zM_ x1_ => f_X7_checkAll_4  fu zM_ x1_) ih (uM_down (uM_up (uM_isFull zM (1 : Int32)) (vp_updL (gM_up (uM_isFull zM (1 : Int32))) x1.toNatClampNeg (0 : Int64))) (vp_updL (gM_down (uM_up (uM_isFull zM (1 : Int32)) (vp_updL (gM_up (uM_isFull zM (1 : Int32))) x1.toNatClampNeg (0 : Int64)))) x1.toNatClampNeg (1 : Int64))) x1 H locs ls hP hD hS (lv_sub hl [0, 1] rfl) hf
def f_X7_checkAll (zM : MdS) : Option (MdS) := f_X7_checkAll_4 fuel zM (9200 : Int32)
set_option maxHeartbeats 4000000 in
set_option maxRecDepth 100000 in
theorem b_X7_checkAll_0 {p : Program} {l : Launch} {e : Env} {s : State} {m : MethodId} {args : Array Value} {below : List Frame} {meth : Method} {c : Code} {G : va_G} {cA : Nat → ClassId} {W9 : va_W} (qM : Nat → Nat) (C0 : Amb p s m args meth c cX7_checkAll RX7 2 none G cA (adr W9) []) {res : MdS} : ∀ (zM : MdS) (H : Heap) (locs : List Loc) (ls : Array Slot), va_P G vwCl ((wMd cA qM zM)) H → va_D (adr W9) ((wMd cA qM zM)) → va_S (adr W9) s.heap H locs → lv_has ls 2 [(0, .ref (qM 0))] → f_X7_checkAll zM = some res → W p l e rm_X7_checkAll s m args below meth c H locs 0 0 (MQ below (qWv G W9 ((wMd cA qM res))) args s 0 0 (adr W9)) (F0 m 0 ls []) := by
  obtain ⟨hx, hb, hr, hml, hown, hts, hlocks, hK, hR, hRA⟩ := id C0
  intro zM H locs ls hP hD hS hl hf
  unfold f_X7_checkAll at hf
  refine lv_sipush (v := (9200 : Int32)) hx hb dX7_checkAll_0 (by decide) ?_
  refine lv_istore_n (lv' := [(1, .int (9200 : Int32)), (0, .ref (qM 0))]) hx hb dX7_checkAll_3 rfl hl (by decide) rfl (fun ls hl => ?_)
  exact b_X7_checkAll_4 qM   C0  fuel zM (9200 : Int32) H locs ls hP hD hS (lv_sub hl [1, 0] rfl) hf

set_option maxRecDepth 100000 in
theorem m_X7_checkAll (l : Launch) (G : va_G) (cA : Nat → ClassId) (qM : Nat → Nat) (zM : MdS) (res : MdS) (hf : f_X7_checkAll zM = some res) : MWv l yX7_checkAll (.code yX7_checkAll cX7_checkAll 2 none :: wd) rm_X7_checkAll G cA [.ref (qM 0)] ((wMd cA qM zM)) [] ((wMd cA qM res)) := by
  refine Met.ofW (cc := cX7_checkAll) (maxL := 2) (ret := none) (by decide) rfl ?_
  intro p e s m args below meth c s₁ B hml hv
  obtain ⟨rfl, hK, hP, hD0, hR, hRA⟩ := hv
  have C0 : Amb p s m ([.ref (qM 0)] : List Value).toArray meth c cX7_checkAll RX7 2 none G cA (adr ((wMd cA qM zM))) [] := ⟨B.exec, B.bytes, B.returns, hml, findClass_of_methodNamed B.named, fun w h => atoms_spec (ws := (.code yX7_checkAll cX7_checkAll 2 none :: wd)) B.pre w (List.mem_cons_of_mem _ h), B.notSynchronized, hK, hR, hRA⟩
  have hl := lv_entry ([.ref (qM 0)]) (n := 2) (Nat.le_of_ble_eq_true rfl)
  rw [lg_entry_eq]
  generalize (lg_sl ([.ref (qM 0)]) ++ List.replicate (2 - (lg_sl ([.ref (qM 0)])).length) Slot.unset).toArray = ls at hl ⊢
  have hl : lv_has ls 2 [(0, .ref (qM 0))] := hl
  exact b_X7_checkAll_0 (W9 := ((wMd cA qM zM))) qM   C0 zM s.heap [] ls hP (adr.self hD0) va_S.rf hl hf
theorem cw_X7_checkAll {R : Room} {s : State} {args : Array Value} {own : String} {index : Nat} (ht : ∀ w ∈ wd, w.before args s = true) (hlink : Cond.methodLink own index yX7_checkAll ∈ wd) (hR : rm_X7_checkAll.frames + 1 ≤ R.frames ∧ 8 + (2 + 11) + rm_X7_checkAll.locals ≤ R.locals) : CallW R s args own RX7 index yX7_checkAll cX7_checkAll 2 none (.code yX7_checkAll cX7_checkAll 2 none :: wd) rm_X7_checkAll 0 0 0 := cwV9 0 ht wi_782 wi_781 wi_38 wi_60 hlink (by decide +kernel) rfl rfl hR
def rm_X7_readTerm : Room := { frames := 3, cells := 0, slots := 0, locals := 68 }
def f_X7_readTerm_354 (zM : MdS) (x4 : Int64) (x10 : Int64) (v1 : Int32) (v2 : Int32) (v3 : Int32) (v4 : Int32) (v5 : Int64) : Option (MdS) := if ¬ x10 = 0 then if ¬ x10 = 0 then (f_X7_addTerm zM v1 v2 v3 v4 (v5 / x10) (x4 / x10)).bind fun r_3 => (f_X7_checkAll r_3).bind fun r_4 => some r_4 else none else none
set_option maxHeartbeats 4000000 in
set_option maxRecDepth 100000 in
theorem b_X7_readTerm_354 {p : Program} {l : Launch} {e : Env} {s : State} {m : MethodId} {args : Array Value} {below : List Frame} {meth : Method} {c : Code} {G : va_G} {cA : Nat → ClassId} {W9 : va_W} (qM : Nat → Nat) (C0 : Amb p s m args meth c cX7_readTerm RX7 12 none G cA (adr W9) []) {res : MdS} : ∀ (zM : MdS) (x4 : Int64) (x10 : Int64) (v1 : Int32) (v2 : Int32) (v3 : Int32) (v4 : Int32) (v5 : Int64) (H : Heap) (locs : List Loc) (ls : Array Slot), va_P G vwCl ((wMd cA qM zM)) H → va_D (adr W9) ((wMd cA qM zM)) → va_S (adr W9) s.heap H locs → lv_has ls 12 [(0, .ref (qM 0)), (4, .long x4), (10, .long x10)] → f_X7_readTerm_354 zM x4 x10 v1 v2 v3 v4 v5 = some res → W p l e rm_X7_readTerm s m args below meth c H locs 0 0 (MQ below (qWv G W9 ((wMd cA qM res))) args s 0 0 (adr W9)) (F0 m 354 ls [.long v5, .int v4, .int v3, .int v2, .int v1, .ref (qM 0)]) := by
  obtain ⟨hx, hb, hr, hml, hown, hts, hlocks, hK, hR, hRA⟩ := id C0
  intro zM x4 x10 v1 v2 v3 v4 v5 H locs ls hP hD hS hl hf
  unfold f_X7_readTerm_354 at hf
  refine lv_lload hx hb dX7_readTerm_354 (lv_at hl 2 rfl) ?_
  obtain ⟨hn_1, hf⟩ := oif hf
  refine lv_ldiv hx hb dX7_readTerm_356 hn_1 ?_
  refine lv_lload hx hb dX7_readTerm_357 (lv_at hl 1 rfl) ?_
  refine lv_lload hx hb dX7_readTerm_359 (lv_at hl 2 rfl) ?_
  obtain ⟨hn_2, hf⟩ := oif hf
  refine lv_ldiv hx hb dX7_readTerm_361 hn_2 ?_
  obtain ⟨r_3, hr_3, hf⟩ := obd hf
  refine cWvV (As := [.int v1, .int v2, .int v3, .int v4, .long (v5 / x10), .long (x4 / x10)]) (rest := []) (W1 := ((wMd cA qM r_3))) ⟨hx, hb, hml, hown, hts⟩ (m_X7_addTerm l G cA qM zM v1 v2 v3 v4 (v5 / x10) (x4 / x10) r_3 hr_3) (cw_X7_addTerm hts wi_772 ⟨Nat.le_of_ble_eq_true rfl, Nat.le_of_ble_eq_true rfl⟩) hK hP hD hS [0, 1, 2, 3, 4] [5, 6, 7, 8, 9] rfl rfl rfl (by decide) rfl va_Pnil dj_nil (va_recv hK.1 hP (ci := 5) (q0 := 0) rfl rfl) rfl hl.1 rfl (Nat.le_of_ble_eq_true rfl) dX7_readTerm_362 ⟨Nat.zero_le _, Nat.zero_le _⟩ (fun H locs hP hD hS => ?_)
  refine lv_aload_n hx hb dX7_readTerm_365 rfl (lv_at hl 0 rfl) ?_
  obtain ⟨r_4, hr_4, hf⟩ := obd hf
  refine cWvV (As := []) (rest := []) (W1 := ((wMd cA qM r_4))) ⟨hx, hb, hml, hown, hts⟩ (m_X7_checkAll l G cA qM r_3 r_4 hr_4) (cw_X7_checkAll hts wi_779 ⟨Nat.le_of_ble_eq_true rfl, Nat.le_of_ble_eq_true rfl⟩) hK hP hD hS [0, 1, 2, 3, 4] [5, 6, 7, 8, 9] rfl rfl rfl (by decide) rfl va_Pnil dj_nil (va_recv hK.1 hP (ci := 5) (q0 := 0) rfl rfl) rfl hl.1 rfl (Nat.le_of_ble_eq_true rfl) dX7_readTerm_366 ⟨Nat.zero_le _, Nat.zero_le _⟩ (fun H locs hP hD hS => ?_)
  cases hf
  exact W.vret hx hb hr (fun t ht hW => ⟨⟨(), rfl, trivial, toT ht hP⟩, hS.F ht⟩) hS.2.2 dX7_readTerm_369 hlocks
def f_X7_readTerm_320 (zM : MdS) (x1 : Int32) (x2 : Int64) (x4 : Int64) (x6 : Int32) (x7 : Int32) (x8 : Int32) : Option (MdS) := if ¬ (gM_fault zM) = 0 then some zM else (f_X7_gcd x2 x4).bind fun r_2 => if x1 = 0 then f_X7_readTerm_354  zM x4 r_2 (8 : Int32) x7 x8 x6 x2 else f_X7_readTerm_354  zM x4 r_2 (8 : Int32) x7 x8 x6 (-x2)
set_option maxHeartbeats 4000000 in
set_option maxRecDepth 100000 in
theorem b_X7_readTerm_320 {p : Program} {l : Launch} {e : Env} {s : State} {m : MethodId} {args : Array Value} {below : List Frame} {meth : Method} {c : Code} {G : va_G} {cA : Nat → ClassId} {W9 : va_W} (qM : Nat → Nat) (C0 : Amb p s m args meth c cX7_readTerm RX7 12 none G cA (adr W9) []) {res : MdS} : ∀ (zM : MdS) (x1 : Int32) (x2 : Int64) (x4 : Int64) (x6 : Int32) (x7 : Int32) (x8 : Int32) (H : Heap) (locs : List Loc) (ls : Array Slot), va_P G vwCl ((wMd cA qM zM)) H → va_D (adr W9) ((wMd cA qM zM)) → va_S (adr W9) s.heap H locs → lv_has ls 12 [(0, .ref (qM 0)), (1, .int x1), (2, .long x2), (4, .long x4), (6, .int x6), (7, .int x7), (8, .int x8)] → f_X7_readTerm_320 zM x1 x2 x4 x6 x7 x8 = some res → W p l e rm_X7_readTerm s m args below meth c H locs 0 0 (MQ below (qWv G W9 ((wMd cA qM res))) args s 0 0 (adr W9)) (F0 m 320 ls []) := by
  obtain ⟨hx, hb, hr, hml, hown, hts, hlocks, hK, hR, hRA⟩ := id C0
  intro zM x1 x2 x4 x6 x7 x8 H locs ls hP hD hS hl hf
  unfold f_X7_readTerm_320 at hf
  refine lv_aload_n hx hb dX7_readTerm_320 rfl (lv_at hl 0 rfl) ?_
  refine va_get (D := G) (ci := 5) (v := .int (gM_fault zM)) (C := RX7) (T := TX7) (N := 13) hx hb hts fin_X7 hown hK.1 hP 0 rfl rfl 10 (by decide) (hts _ wi_681) (fun _ h9 => h9) rfl dX7_readTerm_321 ?_
  refine lv_if_ne (tgt := 369) hx hb dX7_readTerm_324 (by decide) (fun c_1 => ?_) (fun c_1 => ?_)
  · rw [if_pos (c_1)] at hf
    cases hf
    exact W.vret hx hb hr (fun t ht hW => ⟨⟨(), rfl, trivial, toT ht hP⟩, hS.F ht⟩) hS.2.2 dX7_readTerm_369 hlocks
  · rw [if_neg (not_not_intro c_1)] at hf
    refine lv_lload_n hx hb dX7_readTerm_327 rfl (lv_at hl 2 rfl) ?_
    refine lv_lload hx hb dX7_readTerm_328 (lv_at hl 3 rfl) ?_
    obtain ⟨r_2, hr_2, hf⟩ := obd hf
    refine cRlS (As := [.long x2, .long x4]) (rest := []) ⟨hx, hb, hml, hown, hts⟩ (m_X7_gcd l G cA x2 x4 r_2 hr_2) (cw_X7_gcd hts wi_769 ⟨Nat.le_of_ble_eq_true rfl, Nat.le_of_ble_eq_true rfl⟩) hK va_Pnil rfl hl.1 rfl (Nat.le_of_ble_eq_true rfl) dX7_readTerm_330 ⟨Nat.zero_le _, Nat.zero_le _⟩ ?_
    refine lv_lstore (lv' := [(10, .long r_2), (0, .ref (qM 0)), (1, .int x1), (2, .long x2), (4, .long x4), (6, .int x6), (7, .int x7), (8, .int x8)]) hx hb dX7_readTerm_333 hl (by decide) rfl (fun ls hl => ?_)
    refine lv_aload_n hx hb dX7_readTerm_335 rfl (lv_at hl 1 rfl) ?_
    refine lv_bipush (v := (8 : Int32)) hx hb dX7_readTerm_336 (by decide) ?_
    refine lv_iload hx hb dX7_readTerm_338 (lv_at hl 6 rfl) ?_
    refine lv_iload hx hb dX7_readTerm_340 (lv_at hl 7 rfl) ?_
    refine lv_iload hx hb dX7_readTerm_342 (lv_at hl 5 rfl) ?_
    refine lv_iload_n hx hb dX7_readTerm_344 rfl (lv_at hl 2 rfl) ?_
    refine lv_if_eq (tgt := 353) hx hb dX7_readTerm_345 (by decide) (fun c_3 => ?_) (fun c_3 => ?_)
    · rw [if_pos (c_3)] at hf
      refine lv_lload_n hx hb dX7_readTerm_353 rfl (lv_at hl 3 rfl) ?_
      exact b_X7_readTerm_354 qM   C0  zM x4 r_2 (8 : Int32) x7 x8 x6 x2 H locs ls hP hD hS (lv_sub hl [1, 4, 0] rfl) hf
    · rw [if_neg (c_3)] at hf
      refine lv_lload_n hx hb dX7_readTerm_348 rfl (lv_at hl 3 rfl) ?_
      refine lv_lneg hx hb dX7_readTerm_349 ?_
      refine lv_goto (tgt := 354) hx hb dX7_readTerm_350 (by decide) ?_
      exact b_X7_readTerm_354 qM   C0  zM x4 r_2 (8 : Int32) x7 x8 x6 (-x2) H locs ls hP hD hS (lv_sub hl [1, 4, 0] rfl) hf
def f_X7_readTerm_298 (zM : MdS) (x1 : Int32) (x2 : Int64) (x4 : Int64) (x6 : Int32) (x7 : Int32) (x8 : Int32) (x9 : Int32) : Option (MdS) := if ¬ (gM_fault zM) = 0 then f_X7_readTerm_320  zM x1 x2 x4 x6 x7 x8 else if ¬ x9 = 0 then f_X7_readTerm_320  zM x1 x2 x4 x6 x7 x8 else (f_X7_wrong zM (-2 : Int32) (gM_at zM)).bind fun r_3 => f_X7_readTerm_320  r_3 x1 x2 x4 x6 x7 x8
set_option maxHeartbeats 4000000 in
set_option maxRecDepth 100000 in
theorem b_X7_readTerm_298 {p : Program} {l : Launch} {e : Env} {s : State} {m : MethodId} {args : Array Value} {below : List Frame} {meth : Method} {c : Code} {G : va_G} {cA : Nat → ClassId} {W9 : va_W} (qM : Nat → Nat) (C0 : Amb p s m args meth c cX7_readTerm RX7 12 none G cA (adr W9) []) {res : MdS} : ∀ (zM : MdS) (x1 : Int32) (x2 : Int64) (x4 : Int64) (x6 : Int32) (x7 : Int32) (x8 : Int32) (x9 : Int32) (H : Heap) (locs : List Loc) (ls : Array Slot), va_P G vwCl ((wMd cA qM zM)) H → va_D (adr W9) ((wMd cA qM zM)) → va_S (adr W9) s.heap H locs → lv_has ls 12 [(0, .ref (qM 0)), (1, .int x1), (2, .long x2), (4, .long x4), (6, .int x6), (7, .int x7), (8, .int x8), (9, .int x9)] → f_X7_readTerm_298 zM x1 x2 x4 x6 x7 x8 x9 = some res → W p l e rm_X7_readTerm s m args below meth c H locs 0 0 (MQ below (qWv G W9 ((wMd cA qM res))) args s 0 0 (adr W9)) (F0 m 298 ls []) := by
  obtain ⟨hx, hb, hr, hml, hown, hts, hlocks, hK, hR, hRA⟩ := id C0
  intro zM x1 x2 x4 x6 x7 x8 x9 H locs ls hP hD hS hl hf
  unfold f_X7_readTerm_298 at hf
  refine lv_aload_n hx hb dX7_readTerm_298 rfl (lv_at hl 0 rfl) ?_
  refine va_get (D := G) (ci := 5) (v := .int (gM_fault zM)) (C := RX7) (T := TX7) (N := 13) hx hb hts fin_X7 hown hK.1 hP 0 rfl rfl 10 (by decide) (hts _ wi_681) (fun _ h9 => h9) rfl dX7_readTerm_299 ?_
  refine lv_if_ne (tgt := 320) hx hb dX7_readTerm_302 (by decide) (fun c_1 => ?_) (fun c_1 => ?_)
  · rw [if_pos (c_1)] at hf
    exact b_X7_readTerm_320 qM   C0  zM x1 x2 x4 x6 x7 x8 H locs ls hP hD hS (lv_sub hl [0, 1, 2, 3, 4, 5, 6] rfl) hf
  · rw [if_neg (not_not_intro c_1)] at hf
    refine lv_iload hx hb dX7_readTerm_305 (lv_at hl 7 rfl) ?_
    refine lv_if_ne (tgt := 320) hx hb dX7_readTerm_307 (by decide) (fun c_2 => ?_) (fun c_2 => ?_)
    · rw [if_pos (c_2)] at hf
      exact b_X7_readTerm_320 qM   C0  zM x1 x2 x4 x6 x7 x8 H locs ls hP hD hS (lv_sub hl [0, 1, 2, 3, 4, 5, 6] rfl) hf
    · rw [if_neg (not_not_intro c_2)] at hf
      refine lv_aload_n hx hb dX7_readTerm_310 rfl (lv_at hl 0 rfl) ?_
      refine lv_bipush (v := (-2 : Int32)) hx hb dX7_readTerm_311 (by decide) ?_
      refine lv_aload_n hx hb dX7_readTerm_313 rfl (lv_at hl 0 rfl) ?_
      refine va_get (D := G) (ci := 5) (v := .int (gM_at zM)) (C := RX7) (T := TX7) (N := 13) hx hb hts fin_X7 hown hK.1 hP 0 rfl rfl 9 (by decide) (hts _ wi_680) (fun _ h9 => h9) rfl dX7_readTerm_314 ?_
      obtain ⟨r_3, hr_3, hf⟩ := obd hf
      refine cWvV (As := [.int (-2 : Int32), .int (gM_at zM)]) (rest := []) (W1 := ((wMd cA qM r_3))) ⟨hx, hb, hml, hown, hts⟩ (m_X7_wrong l G cA qM zM (-2 : Int32) (gM_at zM) r_3 hr_3) (cw_X7_wrong hts wi_761 ⟨Nat.le_of_ble_eq_true rfl, Nat.le_of_ble_eq_true rfl⟩) hK hP hD hS [0, 1, 2, 3, 4] [5, 6, 7, 8, 9] rfl rfl rfl (by decide) rfl va_Pnil dj_nil (va_recv hK.1 hP (ci := 5) (q0 := 0) rfl rfl) rfl hl.1 rfl (Nat.le_of_ble_eq_true rfl) dX7_readTerm_317 ⟨Nat.zero_le _, Nat.zero_le _⟩ (fun H locs hP hD hS => ?_)
      exact b_X7_readTerm_320 qM   C0  r_3 x1 x2 x4 x6 x7 x8 H locs ls hP hD hS (lv_sub hl [0, 1, 2, 3, 4, 5, 6] rfl) hf
def f_X7_readTerm_284 (zM : MdS) (x1 : Int32) (x2 : Int64) (x4 : Int64) (x6 : Int32) (x7 : Int32) (x9 : Int32) (v0 : Int32) : Option (MdS) := (f_X7_want zM (120 : Int32)).bind fun r_1 => (f_X7_want r_1 (41 : Int32)).bind fun r_2 => f_X7_readTerm_298  r_2 x1 x2 x4 x6 x7 v0 x9
set_option maxHeartbeats 4000000 in
set_option maxRecDepth 100000 in
theorem b_X7_readTerm_284 {p : Program} {l : Launch} {e : Env} {s : State} {m : MethodId} {args : Array Value} {below : List Frame} {meth : Method} {c : Code} {G : va_G} {cA : Nat → ClassId} {W9 : va_W} (qM : Nat → Nat) (C0 : Amb p s m args meth c cX7_readTerm RX7 12 none G cA (adr W9) []) {res : MdS} : ∀ (zM : MdS) (x1 : Int32) (x2 : Int64) (x4 : Int64) (x6 : Int32) (x7 : Int32) (x9 : Int32) (v0 : Int32) (H : Heap) (locs : List Loc) (ls : Array Slot), va_P G vwCl ((wMd cA qM zM)) H → va_D (adr W9) ((wMd cA qM zM)) → va_S (adr W9) s.heap H locs → lv_has ls 12 [(0, .ref (qM 0)), (1, .int x1), (2, .long x2), (4, .long x4), (6, .int x6), (7, .int x7), (9, .int x9)] → f_X7_readTerm_284 zM x1 x2 x4 x6 x7 x9 v0 = some res → W p l e rm_X7_readTerm s m args below meth c H locs 0 0 (MQ below (qWv G W9 ((wMd cA qM res))) args s 0 0 (adr W9)) (F0 m 284 ls [.int v0]) := by
  obtain ⟨hx, hb, hr, hml, hown, hts, hlocks, hK, hR, hRA⟩ := id C0
  intro zM x1 x2 x4 x6 x7 x9 v0 H locs ls hP hD hS hl hf
  unfold f_X7_readTerm_284 at hf
  refine lv_istore (lv' := [(8, .int v0), (0, .ref (qM 0)), (1, .int x1), (2, .long x2), (4, .long x4), (6, .int x6), (7, .int x7), (9, .int x9)]) hx hb dX7_readTerm_284 hl (by decide) rfl (fun ls hl => ?_)
  refine lv_aload_n hx hb dX7_readTerm_286 rfl (lv_at hl 1 rfl) ?_
  refine lv_bipush (v := (120 : Int32)) hx hb dX7_readTerm_287 (by decide) ?_
  obtain ⟨r_1, hr_1, hf⟩ := obd hf
  refine cWvV (As := [.int (120 : Int32)]) (rest := []) (W1 := ((wMd cA qM r_1))) ⟨hx, hb, hml, hown, hts⟩ (m_X7_want l G cA qM zM (120 : Int32) r_1 hr_1) (cw_X7_want hts wi_765 ⟨Nat.le_of_ble_eq_true rfl, Nat.le_of_ble_eq_true rfl⟩) hK hP hD hS [0, 1, 2, 3, 4] [5, 6, 7, 8, 9] rfl rfl rfl (by decide) rfl va_Pnil dj_nil (va_recv hK.1 hP (ci := 5) (q0 := 0) rfl rfl) rfl hl.1 rfl (Nat.le_of_ble_eq_true rfl) dX7_readTerm_289 ⟨Nat.zero_le _, Nat.zero_le _⟩ (fun H locs hP hD hS => ?_)
  refine lv_aload_n hx hb dX7_readTerm_292 rfl (lv_at hl 1 rfl) ?_
  refine lv_bipush (v := (41 : Int32)) hx hb dX7_readTerm_293 (by decide) ?_
  obtain ⟨r_2, hr_2, hf⟩ := obd hf
  refine cWvV (As := [.int (41 : Int32)]) (rest := []) (W1 := ((wMd cA qM r_2))) ⟨hx, hb, hml, hown, hts⟩ (m_X7_want l G cA qM r_1 (41 : Int32) r_2 hr_2) (cw_X7_want hts wi_765 ⟨Nat.le_of_ble_eq_true rfl, Nat.le_of_ble_eq_true rfl⟩) hK hP hD hS [0, 1, 2, 3, 4] [5, 6, 7, 8, 9] rfl rfl rfl (by decide) rfl va_Pnil dj_nil (va_recv hK.1 hP (ci := 5) (q0 := 0) rfl rfl) rfl hl.1 rfl (Nat.le_of_ble_eq_true rfl) dX7_readTerm_295 ⟨Nat.zero_le _, Nat.zero_le _⟩ (fun H locs hP hD hS => ?_)
  exact b_X7_readTerm_298 qM   C0  r_2 x1 x2 x4 x6 x7 v0 x9 H locs ls hP hD hS (lv_sub hl [1, 2, 3, 4, 5, 6, 0, 7] rfl) hf
def f_X7_readTerm_269 (zM : MdS) (x1 : Int32) (x2 : Int64) (x4 : Int64) (x6 : Int32) (x7 : Int32) (x9 : Int32) (x10 : Int32) (v0 : Int32) : Option (MdS) := if x10 = 0 then f_X7_readTerm_284  zM x1 x2 x4 x6 x7 x9 v0 else f_X7_readTerm_284  zM x1 x2 x4 x6 x7 x9 (-v0)
set_option maxHeartbeats 4000000 in
set_option maxRecDepth 100000 in
theorem b_X7_readTerm_269 {p : Program} {l : Launch} {e : Env} {s : State} {m : MethodId} {args : Array Value} {below : List Frame} {meth : Method} {c : Code} {G : va_G} {cA : Nat → ClassId} {W9 : va_W} (qM : Nat → Nat) (C0 : Amb p s m args meth c cX7_readTerm RX7 12 none G cA (adr W9) []) {res : MdS} : ∀ (zM : MdS) (x1 : Int32) (x2 : Int64) (x4 : Int64) (x6 : Int32) (x7 : Int32) (x9 : Int32) (x10 : Int32) (v0 : Int32) (H : Heap) (locs : List Loc) (ls : Array Slot), va_P G vwCl ((wMd cA qM zM)) H → va_D (adr W9) ((wMd cA qM zM)) → va_S (adr W9) s.heap H locs → lv_has ls 12 [(0, .ref (qM 0)), (1, .int x1), (2, .long x2), (4, .long x4), (6, .int x6), (7, .int x7), (9, .int x9), (10, .int x10)] → f_X7_readTerm_269 zM x1 x2 x4 x6 x7 x9 x10 v0 = some res → W p l e rm_X7_readTerm s m args below meth c H locs 0 0 (MQ below (qWv G W9 ((wMd cA qM res))) args s 0 0 (adr W9)) (F0 m 269 ls [.int v0]) := by
  obtain ⟨hx, hb, hr, hml, hown, hts, hlocks, hK, hR, hRA⟩ := id C0
  intro zM x1 x2 x4 x6 x7 x9 x10 v0 H locs ls hP hD hS hl hf
  unfold f_X7_readTerm_269 at hf
  refine lv_istore (lv' := [(8, .int v0), (0, .ref (qM 0)), (1, .int x1), (2, .long x2), (4, .long x4), (6, .int x6), (7, .int x7), (9, .int x9), (10, .int x10)]) hx hb dX7_readTerm_269 hl (by decide) rfl (fun ls hl => ?_)
  refine lv_iload hx hb dX7_readTerm_271 (lv_at hl 8 rfl) ?_
  refine lv_if_eq (tgt := 282) hx hb dX7_readTerm_273 (by decide) (fun c_1 => ?_) (fun c_1 => ?_)
  · rw [if_pos (c_1)] at hf
    refine lv_iload hx hb dX7_readTerm_282 (lv_at hl 0 rfl) ?_
    exact b_X7_readTerm_284 qM   C0  zM x1 x2 x4 x6 x7 x9 v0 H locs ls hP hD hS (lv_sub hl [1, 2, 3, 4, 5, 6, 7] rfl) hf
  · rw [if_neg (c_1)] at hf
    refine lv_iload hx hb dX7_readTerm_276 (lv_at hl 0 rfl) ?_
    refine lv_ineg hx hb dX7_readTerm_278 ?_
    refine lv_goto (tgt := 284) hx hb dX7_readTerm_279 (by decide) ?_
    exact b_X7_readTerm_284 qM   C0  zM x1 x2 x4 x6 x7 x9 (-v0) H locs ls hP hD hS (lv_sub hl [1, 2, 3, 4, 5, 6, 7] rfl) hf
def f_X7_readTerm_268 (zM : MdS) (x1 : Int32) (x2 : Int64) (x4 : Int64) (x6 : Int32) (x7 : Int32) (x9 : Int32) (x10 : Int32) : Option (MdS) := f_X7_readTerm_269  zM x1 x2 x4 x6 x7 x9 x10 (1 : Int32)
set_option maxHeartbeats 4000000 in
set_option maxRecDepth 100000 in
theorem b_X7_readTerm_268 {p : Program} {l : Launch} {e : Env} {s : State} {m : MethodId} {args : Array Value} {below : List Frame} {meth : Method} {c : Code} {G : va_G} {cA : Nat → ClassId} {W9 : va_W} (qM : Nat → Nat) (C0 : Amb p s m args meth c cX7_readTerm RX7 12 none G cA (adr W9) []) {res : MdS} : ∀ (zM : MdS) (x1 : Int32) (x2 : Int64) (x4 : Int64) (x6 : Int32) (x7 : Int32) (x9 : Int32) (x10 : Int32) (H : Heap) (locs : List Loc) (ls : Array Slot), va_P G vwCl ((wMd cA qM zM)) H → va_D (adr W9) ((wMd cA qM zM)) → va_S (adr W9) s.heap H locs → lv_has ls 12 [(0, .ref (qM 0)), (1, .int x1), (2, .long x2), (4, .long x4), (6, .int x6), (7, .int x7), (9, .int x9), (10, .int x10)] → f_X7_readTerm_268 zM x1 x2 x4 x6 x7 x9 x10 = some res → W p l e rm_X7_readTerm s m args below meth c H locs 0 0 (MQ below (qWv G W9 ((wMd cA qM res))) args s 0 0 (adr W9)) (F0 m 268 ls []) := by
  obtain ⟨hx, hb, hr, hml, hown, hts, hlocks, hK, hR, hRA⟩ := id C0
  intro zM x1 x2 x4 x6 x7 x9 x10 H locs ls hP hD hS hl hf
  unfold f_X7_readTerm_268 at hf
  refine lv_iconst (v := 1) hx hb dX7_readTerm_268 (by decide) ?_
  exact b_X7_readTerm_269 qM   C0  zM x1 x2 x4 x6 x7 x9 x10 (1 : Int32) H locs ls hP hD hS (lv_sub hl [0, 1, 2, 3, 4, 5, 6, 7] rfl) hf
def f_X7_readTerm_215 (zM : MdS) (x1 : Int32) (x2 : Int64) (x4 : Int64) (x6 : Int32) (x9 : Int32) (v0 : Int32) : Option (MdS) := (f_X7_want (uM_at zM ((gM_at zM) + (1 : Int32))) (40 : Int32)).bind fun r_1 => (f_X7_takes r_1 (45 : Int32)).bind fun r_2 => if ¬ (gM_fault r_2.2) = 0 then f_X7_readTerm_268  r_2.2 x1 x2 x4 x6 v0 x9 r_2.1 else (f_X7_next r_2.2).bind fun r_4 => (f_X7_isDigit r_4.1).bind fun r_5 => if r_5 = 0 then f_X7_readTerm_268  r_4.2 x1 x2 x4 x6 v0 x9 r_2.1 else (f_X7_readNumber r_4.2 (0 : Int32) (9 : Int32)).bind fun r_7 => f_X7_readTerm_269  r_7.2 x1 x2 x4 x6 v0 x9 r_2.1 r_7.1
set_option maxHeartbeats 4000000 in
set_option maxRecDepth 100000 in
theorem b_X7_readTerm_215 {p : Program} {l : Launch} {e : Env} {s : State} {m : MethodId} {args : Array Value} {below : List Frame} {meth : Method} {c : Code} {G : va_G} {cA : Nat → ClassId} {W9 : va_W} (qM : Nat → Nat) (C0 : Amb p s m args meth c cX7_readTerm RX7 12 none G cA (adr W9) []) {res : MdS} : ∀ (zM : MdS) (x1 : Int32) (x2 : Int64) (x4 : Int64) (x6 : Int32) (x9 : Int32) (v0 : Int32) (H : Heap) (locs : List Loc) (ls : Array Slot), va_P G vwCl ((wMd cA qM zM)) H → va_D (adr W9) ((wMd cA qM zM)) → va_S (adr W9) s.heap H locs → lv_has ls 12 [(0, .ref (qM 0)), (1, .int x1), (2, .long x2), (4, .long x4), (6, .int x6), (9, .int x9)] → f_X7_readTerm_215 zM x1 x2 x4 x6 x9 v0 = some res → W p l e rm_X7_readTerm s m args below meth c H locs 0 0 (MQ below (qWv G W9 ((wMd cA qM res))) args s 0 0 (adr W9)) (F0 m 215 ls [.int v0]) := by
  obtain ⟨hx, hb, hr, hml, hown, hts, hlocks, hK, hR, hRA⟩ := id C0
  intro zM x1 x2 x4 x6 x9 v0 H locs ls hP hD hS hl hf
  unfold f_X7_readTerm_215 at hf
  refine lv_istore (lv' := [(7, .int v0), (0, .ref (qM 0)), (1, .int x1), (2, .long x2), (4, .long x4), (6, .int x6), (9, .int x9)]) hx hb dX7_readTerm_215 hl (by decide) rfl (fun ls hl => ?_)
  refine lv_aload_n hx hb dX7_readTerm_217 rfl (lv_at hl 1 rfl) ?_
  refine lv_dup hx hb dX7_readTerm_218 rfl ?_
  refine va_get (D := G) (ci := 5) (v := .int (gM_at zM)) (C := RX7) (T := TX7) (N := 13) hx hb hts fin_X7 hown hK.1 hP 0 rfl rfl 9 (by decide) (hts _ wi_680) (fun _ h9 => h9) rfl dX7_readTerm_219 ?_
  refine lv_iconst (v := 1) hx hb dX7_readTerm_222 (by decide) ?_
  refine lv_iadd hx hb dX7_readTerm_223 ?_
  refine va_put (D := G) (ci := 5) (v := .int ((gM_at zM) + (1 : Int32))) (ty := .int) (C := RX7) (T := TX7) (N := 13) hx hb hts fin_X7 tyX7 tyX7_ok nmX7 hown hK.1 hP hD hS 0 rfl rfl 9 (by decide) (hts _ wi_680) (fun _ h9 => h9) rfl (by decide +kernel) rfl rfl (Nat.le_of_ble_eq_true rfl) dX7_readTerm_224 (fun H locs hP hD hS => ?_)
  have hP := sM_at_P hP
  have hD := sM_at_D hD
  refine lv_aload_n hx hb dX7_readTerm_227 rfl (lv_at hl 1 rfl) ?_
  refine lv_bipush (v := (40 : Int32)) hx hb dX7_readTerm_228 (by decide) ?_
  obtain ⟨r_1, hr_1, hf⟩ := obd hf
  refine cWvV (As := [.int (40 : Int32)]) (rest := []) (W1 := ((wMd cA qM r_1))) ⟨hx, hb, hml, hown, hts⟩ (m_X7_want l G cA qM (uM_at zM ((gM_at zM) + (1 : Int32))) (40 : Int32) r_1 hr_1) (cw_X7_want hts wi_765 ⟨Nat.le_of_ble_eq_true rfl, Nat.le_of_ble_eq_true rfl⟩) hK hP hD hS [0, 1, 2, 3, 4] [5, 6, 7, 8, 9] rfl rfl rfl (by decide) rfl va_Pnil dj_nil (va_recv hK.1 hP (ci := 5) (q0 := 0) rfl rfl) rfl hl.1 rfl (Nat.le_of_ble_eq_true rfl) dX7_readTerm_230 ⟨Nat.zero_le _, Nat.zero_le _⟩ (fun H locs hP hD hS => ?_)
  refine lv_aload_n hx hb dX7_readTerm_233 rfl (lv_at hl 1 rfl) ?_
  refine lv_bipush (v := (45 : Int32)) hx hb dX7_readTerm_234 (by decide) ?_
  obtain ⟨r_2, hr_2, hf⟩ := obd hf
  refine cWiV (As := [.int (45 : Int32)]) (rest := []) (W1 := ((wMd cA qM r_2.2))) ⟨hx, hb, hml, hown, hts⟩ (m_X7_takes l G cA qM r_1 (45 : Int32) r_2 hr_2) (cw_X7_takes hts wi_742 ⟨Nat.le_of_ble_eq_true rfl, Nat.le_of_ble_eq_true rfl⟩) hK hP hD hS [0, 1, 2, 3, 4] [5, 6, 7, 8, 9] rfl rfl rfl (by decide) rfl va_Pnil dj_nil (va_recv hK.1 hP (ci := 5) (q0 := 0) rfl rfl) rfl hl.1 rfl (Nat.le_of_ble_eq_true rfl) dX7_readTerm_236 ⟨Nat.zero_le _, Nat.zero_le _⟩ (fun H locs hP hD hS => ?_)
  refine lv_istore (lv' := [(10, .int r_2.1), (7, .int v0), (0, .ref (qM 0)), (1, .int x1), (2, .long x2), (4, .long x4), (6, .int x6), (9, .int x9)]) hx hb dX7_readTerm_239 hl (by decide) rfl (fun ls hl => ?_)
  refine lv_aload_n hx hb dX7_readTerm_241 rfl (lv_at hl 2 rfl) ?_
  refine va_get (D := G) (ci := 5) (v := .int (gM_fault r_2.2)) (C := RX7) (T := TX7) (N := 13) hx hb hts fin_X7 hown hK.1 hP 0 rfl rfl 10 (by decide) (hts _ wi_681) (fun _ h9 => h9) rfl dX7_readTerm_242 ?_
  refine lv_if_ne (tgt := 268) hx hb dX7_readTerm_245 (by decide) (fun c_3 => ?_) (fun c_3 => ?_)
  · rw [if_pos (c_3)] at hf
    exact b_X7_readTerm_268 qM   C0  r_2.2 x1 x2 x4 x6 v0 x9 r_2.1 H locs ls hP hD hS (lv_sub hl [2, 3, 4, 5, 6, 1, 7, 0] rfl) hf
  · rw [if_neg (not_not_intro c_3)] at hf
    refine lv_aload_n hx hb dX7_readTerm_248 rfl (lv_at hl 2 rfl) ?_
    obtain ⟨r_4, hr_4, hf⟩ := obd hf
    refine cWiV (As := []) (rest := []) (W1 := ((wMd cA qM r_4.2))) ⟨hx, hb, hml, hown, hts⟩ (m_X7_next l G cA qM r_2.2 r_4 hr_4) (cw_X7_next hts wi_746 ⟨Nat.le_of_ble_eq_true rfl, Nat.le_of_ble_eq_true rfl⟩) hK hP hD hS [0, 1, 2, 3, 4] [5, 6, 7, 8, 9] rfl rfl rfl (by decide) rfl va_Pnil dj_nil (va_recv hK.1 hP (ci := 5) (q0 := 0) rfl rfl) rfl hl.1 rfl (Nat.le_of_ble_eq_true rfl) dX7_readTerm_249 ⟨Nat.zero_le _, Nat.zero_le _⟩ (fun H locs hP hD hS => ?_)
    obtain ⟨r_5, hr_5, hf⟩ := obd hf
    refine cRiS (As := [.int r_4.1]) (rest := []) ⟨hx, hb, hml, hown, hts⟩ (m_X7_isDigit l G cA r_4.1 r_5 hr_5) (cw_X7_isDigit hts wi_754 ⟨Nat.le_of_ble_eq_true rfl, Nat.le_of_ble_eq_true rfl⟩) hK va_Pnil rfl hl.1 rfl (Nat.le_of_ble_eq_true rfl) dX7_readTerm_252 ⟨Nat.zero_le _, Nat.zero_le _⟩ ?_
    refine lv_if_eq (tgt := 268) hx hb dX7_readTerm_255 (by decide) (fun c_6 => ?_) (fun c_6 => ?_)
    · rw [if_pos (c_6)] at hf
      exact b_X7_readTerm_268 qM   C0  r_4.2 x1 x2 x4 x6 v0 x9 r_2.1 H locs ls hP hD hS (lv_sub hl [2, 3, 4, 5, 6, 1, 7, 0] rfl) hf
    · rw [if_neg (c_6)] at hf
      refine lv_aload_n hx hb dX7_readTerm_258 rfl (lv_at hl 2 rfl) ?_
      refine lv_iconst (v := 0) hx hb dX7_readTerm_259 (by decide) ?_
      refine lv_bipush (v := (9 : Int32)) hx hb dX7_readTerm_260 (by decide) ?_
      obtain ⟨r_7, hr_7, hf⟩ := obd hf
      refine cWiV (As := [.int (0 : Int32), .int (9 : Int32)]) (rest := []) (W1 := ((wMd cA qM r_7.2))) ⟨hx, hb, hml, hown, hts⟩ (m_X7_readNumber l G cA qM r_4.2 (0 : Int32) (9 : Int32) r_7 hr_7) (cw_X7_readNumber hts wi_757 ⟨Nat.le_of_ble_eq_true rfl, Nat.le_of_ble_eq_true rfl⟩) hK hP hD hS [0, 1, 2, 3, 4] [5, 6, 7, 8, 9] rfl rfl rfl (by decide) rfl va_Pnil dj_nil (va_recv hK.1 hP (ci := 5) (q0 := 0) rfl rfl) rfl hl.1 rfl (Nat.le_of_ble_eq_true rfl) dX7_readTerm_262 ⟨Nat.zero_le _, Nat.zero_le _⟩ (fun H locs hP hD hS => ?_)
      refine lv_goto (tgt := 269) hx hb dX7_readTerm_265 (by decide) ?_
      exact b_X7_readTerm_269 qM   C0  r_7.2 x1 x2 x4 x6 v0 x9 r_2.1 r_7.1 H locs ls hP hD hS (lv_sub hl [2, 3, 4, 5, 6, 1, 7, 0] rfl) hf
def f_X7_readTerm_185 (zM : MdS) (x1 : Int32) (x2 : Int64) (x4 : Int64) (x6 : Int32) : Option (MdS) := (f_X7_next zM).bind fun r_1 => if ¬ r_1.1 = (101 : Int32) then (f_X7_next r_1.2).bind fun r_3 => if ¬ r_3.1 = (115 : Int32) then f_X7_readTerm_215  r_3.2 x1 x2 x4 x6 (1 : Int32) (4 : Int32) else f_X7_readTerm_215  r_3.2 x1 x2 x4 x6 (1 : Int32) (3 : Int32) else f_X7_readTerm_215  r_1.2 x1 x2 x4 x6 (1 : Int32) (2 : Int32)
set_option maxHeartbeats 4000000 in
set_option maxRecDepth 100000 in
theorem b_X7_readTerm_185 {p : Program} {l : Launch} {e : Env} {s : State} {m : MethodId} {args : Array Value} {below : List Frame} {meth : Method} {c : Code} {G : va_G} {cA : Nat → ClassId} {W9 : va_W} (qM : Nat → Nat) (C0 : Amb p s m args meth c cX7_readTerm RX7 12 none G cA (adr W9) []) {res : MdS} : ∀ (zM : MdS) (x1 : Int32) (x2 : Int64) (x4 : Int64) (x6 : Int32) (H : Heap) (locs : List Loc) (ls : Array Slot), va_P G vwCl ((wMd cA qM zM)) H → va_D (adr W9) ((wMd cA qM zM)) → va_S (adr W9) s.heap H locs → lv_has ls 12 [(0, .ref (qM 0)), (1, .int x1), (2, .long x2), (4, .long x4), (6, .int x6)] → f_X7_readTerm_185 zM x1 x2 x4 x6 = some res → W p l e rm_X7_readTerm s m args below meth c H locs 0 0 (MQ below (qWv G W9 ((wMd cA qM res))) args s 0 0 (adr W9)) (F0 m 185 ls []) := by
  obtain ⟨hx, hb, hr, hml, hown, hts, hlocks, hK, hR, hRA⟩ := id C0
  intro zM x1 x2 x4 x6 H locs ls hP hD hS hl hf
  unfold f_X7_readTerm_185 at hf
  refine lv_iconst (v := 1) hx hb dX7_readTerm_185 (by decide) ?_
  refine lv_istore (lv' := [(9, .int (1 : Int32)), (0, .ref (qM 0)), (1, .int x1), (2, .long x2), (4, .long x4), (6, .int x6)]) hx hb dX7_readTerm_186 hl (by decide) rfl (fun ls hl => ?_)
  refine lv_aload_n hx hb dX7_readTerm_188 rfl (lv_at hl 1 rfl) ?_
  obtain ⟨r_1, hr_1, hf⟩ := obd hf
  refine cWiV (As := []) (rest := []) (W1 := ((wMd cA qM r_1.2))) ⟨hx, hb, hml, hown, hts⟩ (m_X7_next l G cA qM zM r_1 hr_1) (cw_X7_next hts wi_746 ⟨Nat.le_of_ble_eq_true rfl, Nat.le_of_ble_eq_true rfl⟩) hK hP hD hS [0, 1, 2, 3, 4] [5, 6, 7, 8, 9] rfl rfl rfl (by decide) rfl va_Pnil dj_nil (va_recv hK.1 hP (ci := 5) (q0 := 0) rfl rfl) rfl hl.1 rfl (Nat.le_of_ble_eq_true rfl) dX7_readTerm_189 ⟨Nat.zero_le _, Nat.zero_le _⟩ (fun H locs hP hD hS => ?_)
  refine lv_bipush (v := (101 : Int32)) hx hb dX7_readTerm_192 (by decide) ?_
  refine lv_icmp_ne (tgt := 201) hx hb dX7_readTerm_194 (by decide) (fun c_2 => ?_) (fun c_2 => ?_)
  · rw [if_pos (c_2)] at hf
    refine lv_aload_n hx hb dX7_readTerm_201 rfl (lv_at hl 1 rfl) ?_
    obtain ⟨r_3, hr_3, hf⟩ := obd hf
    refine cWiV (As := []) (rest := []) (W1 := ((wMd cA qM r_3.2))) ⟨hx, hb, hml, hown, hts⟩ (m_X7_next l G cA qM r_1.2 r_3 hr_3) (cw_X7_next hts wi_746 ⟨Nat.le_of_ble_eq_true rfl, Nat.le_of_ble_eq_true rfl⟩) hK hP hD hS [0, 1, 2, 3, 4] [5, 6, 7, 8, 9] rfl rfl rfl (by decide) rfl va_Pnil dj_nil (va_recv hK.1 hP (ci := 5) (q0 := 0) rfl rfl) rfl hl.1 rfl (Nat.le_of_ble_eq_true rfl) dX7_readTerm_202 ⟨Nat.zero_le _, Nat.zero_le _⟩ (fun H locs hP hD hS => ?_)
    refine lv_bipush (v := (115 : Int32)) hx hb dX7_readTerm_205 (by decide) ?_
    refine lv_icmp_ne (tgt := 214) hx hb dX7_readTerm_207 (by decide) (fun c_4 => ?_) (fun c_4 => ?_)
    · rw [if_pos (c_4)] at hf
      refine lv_iconst (v := 4) hx hb dX7_readTerm_214 (by decide) ?_
      exact b_X7_readTerm_215 qM   C0  r_3.2 x1 x2 x4 x6 (1 : Int32) (4 : Int32) H locs ls hP hD hS (lv_sub hl [1, 2, 3, 4, 5, 0] rfl) hf
    · rw [if_neg (not_not_intro c_4)] at hf
      refine lv_iconst (v := 3) hx hb dX7_readTerm_210 (by decide) ?_
      refine lv_goto (tgt := 215) hx hb dX7_readTerm_211 (by decide) ?_
      exact b_X7_readTerm_215 qM   C0  r_3.2 x1 x2 x4 x6 (1 : Int32) (3 : Int32) H locs ls hP hD hS (lv_sub hl [1, 2, 3, 4, 5, 0] rfl) hf
  · rw [if_neg (not_not_intro c_2)] at hf
    refine lv_iconst (v := 2) hx hb dX7_readTerm_197 (by decide) ?_
    refine lv_goto (tgt := 215) hx hb dX7_readTerm_198 (by decide) ?_
    exact b_X7_readTerm_215 qM   C0  r_1.2 x1 x2 x4 x6 (1 : Int32) (2 : Int32) H locs ls hP hD hS (lv_sub hl [1, 2, 3, 4, 5, 0] rfl) hf
def f_X7_readTerm_112 (zM : MdS) (x1 : Int32) (x2 : Int64) (x4 : Int64) (x6 : Int32) (x7 : Int32) (x8 : Int32) (x9 : Int32) : Option (MdS) := (f_X7_takes zM (108 : Int32)).bind fun r_1 => if r_1.1 = 0 then if ¬ (gM_fault r_1.2) = 0 then f_X7_readTerm_298  r_1.2 x1 x2 x4 x6 x7 x8 x9 else (f_X7_next r_1.2).bind fun r_4 => if r_4.1 = (101 : Int32) then f_X7_readTerm_185  r_4.2 x1 x2 x4 x6 else (f_X7_next r_4.2).bind fun r_6 => if r_6.1 = (115 : Int32) then f_X7_readTerm_185  r_6.2 x1 x2 x4 x6 else (f_X7_next r_6.2).bind fun r_8 => if ¬ r_8.1 = (99 : Int32) then f_X7_readTerm_298  r_8.2 x1 x2 x4 x6 x7 x8 x9 else f_X7_readTerm_185  r_8.2 x1 x2 x4 x6 else (f_X7_takes r_1.2 (94 : Int32)).bind fun r_10 => if r_10.1 = 0 then f_X7_readTerm_298  r_10.2 x1 x2 x4 x6 (1 : Int32) (1 : Int32) (1 : Int32) else (f_X7_readNumber r_10.2 (0 : Int32) (9 : Int32)).bind fun r_12 => f_X7_readTerm_298  r_12.2 x1 x2 x4 x6 (1 : Int32) r_12.1 (1 : Int32)
set_option maxHeartbeats 4000000 in
set_option maxRecDepth 100000 in
theorem b_X7_readTerm_112 {p : Program} {l : Launch} {e : Env} {s : State} {m : MethodId} {args : Array Value} {below : List Frame} {meth : Method} {c : Code} {G : va_G} {cA : Nat → ClassId} {W9 : va_W} (qM : Nat → Nat) (C0 : Amb p s m args meth c cX7_readTerm RX7 12 none G cA (adr W9) []) {res : MdS} : ∀ (zM : MdS) (x1 : Int32) (x2 : Int64) (x4 : Int64) (x6 : Int32) (x7 : Int32) (x8 : Int32) (x9 : Int32) (H : Heap) (locs : List Loc) (ls : Array Slot), va_P G vwCl ((wMd cA qM zM)) H → va_D (adr W9) ((wMd cA qM zM)) → va_S (adr W9) s.heap H locs → lv_has ls 12 [(0, .ref (qM 0)), (1, .int x1), (2, .long x2), (4, .long x4), (6, .int x6), (7, .int x7), (8, .int x8), (9, .int x9)] → f_X7_readTerm_112 zM x1 x2 x4 x6 x7 x8 x9 = some res → W p l e rm_X7_readTerm s m args below meth c H locs 0 0 (MQ below (qWv G W9 ((wMd cA qM res))) args s 0 0 (adr W9)) (F0 m 112 ls []) := by
  obtain ⟨hx, hb, hr, hml, hown, hts, hlocks, hK, hR, hRA⟩ := id C0
  intro zM x1 x2 x4 x6 x7 x8 x9 H locs ls hP hD hS hl hf
  unfold f_X7_readTerm_112 at hf
  refine lv_aload_n hx hb dX7_readTerm_112 rfl (lv_at hl 0 rfl) ?_
  refine lv_bipush (v := (108 : Int32)) hx hb dX7_readTerm_113 (by decide) ?_
  obtain ⟨r_1, hr_1, hf⟩ := obd hf
  refine cWiV (As := [.int (108 : Int32)]) (rest := []) (W1 := ((wMd cA qM r_1.2))) ⟨hx, hb, hml, hown, hts⟩ (m_X7_takes l G cA qM zM (108 : Int32) r_1 hr_1) (cw_X7_takes hts wi_742 ⟨Nat.le_of_ble_eq_true rfl, Nat.le_of_ble_eq_true rfl⟩) hK hP hD hS [0, 1, 2, 3, 4] [5, 6, 7, 8, 9] rfl rfl rfl (by decide) rfl va_Pnil dj_nil (va_recv hK.1 hP (ci := 5) (q0 := 0) rfl rfl) rfl hl.1 rfl (Nat.le_of_ble_eq_true rfl) dX7_readTerm_115 ⟨Nat.zero_le _, Nat.zero_le _⟩ (fun H locs hP hD hS => ?_)
  refine lv_if_eq (tgt := 151) hx hb dX7_readTerm_118 (by decide) (fun c_2 => ?_) (fun c_2 => ?_)
  · rw [if_pos (c_2)] at hf
    refine lv_aload_n hx hb dX7_readTerm_151 rfl (lv_at hl 0 rfl) ?_
    refine va_get (D := G) (ci := 5) (v := .int (gM_fault r_1.2)) (C := RX7) (T := TX7) (N := 13) hx hb hts fin_X7 hown hK.1 hP 0 rfl rfl 10 (by decide) (hts _ wi_681) (fun _ h9 => h9) rfl dX7_readTerm_152 ?_
    refine lv_if_ne (tgt := 298) hx hb dX7_readTerm_155 (by decide) (fun c_3 => ?_) (fun c_3 => ?_)
    · rw [if_pos (c_3)] at hf
      exact b_X7_readTerm_298 qM   C0  r_1.2 x1 x2 x4 x6 x7 x8 x9 H locs ls hP hD hS (lv_sub hl [0, 1, 2, 3, 4, 5, 6, 7] rfl) hf
    · rw [if_neg (not_not_intro c_3)] at hf
      refine lv_aload_n hx hb dX7_readTerm_158 rfl (lv_at hl 0 rfl) ?_
      obtain ⟨r_4, hr_4, hf⟩ := obd hf
      refine cWiV (As := []) (rest := []) (W1 := ((wMd cA qM r_4.2))) ⟨hx, hb, hml, hown, hts⟩ (m_X7_next l G cA qM r_1.2 r_4 hr_4) (cw_X7_next hts wi_746 ⟨Nat.le_of_ble_eq_true rfl, Nat.le_of_ble_eq_true rfl⟩) hK hP hD hS [0, 1, 2, 3, 4] [5, 6, 7, 8, 9] rfl rfl rfl (by decide) rfl va_Pnil dj_nil (va_recv hK.1 hP (ci := 5) (q0 := 0) rfl rfl) rfl hl.1 rfl (Nat.le_of_ble_eq_true rfl) dX7_readTerm_159 ⟨Nat.zero_le _, Nat.zero_le _⟩ (fun H locs hP hD hS => ?_)
      refine lv_bipush (v := (101 : Int32)) hx hb dX7_readTerm_162 (by decide) ?_
      refine lv_icmp_eq (tgt := 185) hx hb dX7_readTerm_164 (by decide) (fun c_5 => ?_) (fun c_5 => ?_)
      · rw [if_pos (c_5)] at hf
        exact b_X7_readTerm_185 qM   C0  r_4.2 x1 x2 x4 x6 H locs ls hP hD hS (lv_sub hl [0, 1, 2, 3, 4] rfl) hf
      · rw [if_neg (c_5)] at hf
        refine lv_aload_n hx hb dX7_readTerm_167 rfl (lv_at hl 0 rfl) ?_
        obtain ⟨r_6, hr_6, hf⟩ := obd hf
        refine cWiV (As := []) (rest := []) (W1 := ((wMd cA qM r_6.2))) ⟨hx, hb, hml, hown, hts⟩ (m_X7_next l G cA qM r_4.2 r_6 hr_6) (cw_X7_next hts wi_746 ⟨Nat.le_of_ble_eq_true rfl, Nat.le_of_ble_eq_true rfl⟩) hK hP hD hS [0, 1, 2, 3, 4] [5, 6, 7, 8, 9] rfl rfl rfl (by decide) rfl va_Pnil dj_nil (va_recv hK.1 hP (ci := 5) (q0 := 0) rfl rfl) rfl hl.1 rfl (Nat.le_of_ble_eq_true rfl) dX7_readTerm_168 ⟨Nat.zero_le _, Nat.zero_le _⟩ (fun H locs hP hD hS => ?_)
        refine lv_bipush (v := (115 : Int32)) hx hb dX7_readTerm_171 (by decide) ?_
        refine lv_icmp_eq (tgt := 185) hx hb dX7_readTerm_173 (by decide) (fun c_7 => ?_) (fun c_7 => ?_)
        · rw [if_pos (c_7)] at hf
          exact b_X7_readTerm_185 qM   C0  r_6.2 x1 x2 x4 x6 H locs ls hP hD hS (lv_sub hl [0, 1, 2, 3, 4] rfl) hf
        · rw [if_neg (c_7)] at hf
          refine lv_aload_n hx hb dX7_readTerm_176 rfl (lv_at hl 0 rfl) ?_
          obtain ⟨r_8, hr_8, hf⟩ := obd hf
          refine cWiV (As := []) (rest := []) (W1 := ((wMd cA qM r_8.2))) ⟨hx, hb, hml, hown, hts⟩ (m_X7_next l G cA qM r_6.2 r_8 hr_8) (cw_X7_next hts wi_746 ⟨Nat.le_of_ble_eq_true rfl, Nat.le_of_ble_eq_true rfl⟩) hK hP hD hS [0, 1, 2, 3, 4] [5, 6, 7, 8, 9] rfl rfl rfl (by decide) rfl va_Pnil dj_nil (va_recv hK.1 hP (ci := 5) (q0 := 0) rfl rfl) rfl hl.1 rfl (Nat.le_of_ble_eq_true rfl) dX7_readTerm_177 ⟨Nat.zero_le _, Nat.zero_le _⟩ (fun H locs hP hD hS => ?_)
          refine lv_bipush (v := (99 : Int32)) hx hb dX7_readTerm_180 (by decide) ?_
          refine lv_icmp_ne (tgt := 298) hx hb dX7_readTerm_182 (by decide) (fun c_9 => ?_) (fun c_9 => ?_)
          · rw [if_pos (c_9)] at hf
            exact b_X7_readTerm_298 qM   C0  r_8.2 x1 x2 x4 x6 x7 x8 x9 H locs ls hP hD hS (lv_sub hl [0, 1, 2, 3, 4, 5, 6, 7] rfl) hf
          · rw [if_neg (not_not_intro c_9)] at hf
            exact b_X7_readTerm_185 qM   C0  r_8.2 x1 x2 x4 x6 H locs ls hP hD hS (lv_sub hl [0, 1, 2, 3, 4] rfl) hf
  · rw [if_neg (c_2)] at hf
    refine lv_iconst (v := 1) hx hb dX7_readTerm_121 (by decide) ?_
    refine lv_istore (lv' := [(9, .int (1 : Int32)), (0, .ref (qM 0)), (1, .int x1), (2, .long x2), (4, .long x4), (6, .int x6), (7, .int x7), (8, .int x8)]) hx hb dX7_readTerm_122 hl (by decide) rfl (fun ls hl => ?_)
    refine lv_iconst (v := 1) hx hb dX7_readTerm_124 (by decide) ?_
    refine lv_istore (lv' := [(7, .int (1 : Int32)), (9, .int (1 : Int32)), (0, .ref (qM 0)), (1, .int x1), (2, .long x2), (4, .long x4), (6, .int x6), (8, .int x8)]) hx hb dX7_readTerm_125 hl (by decide) rfl (fun ls hl => ?_)
    refine lv_iconst (v := 1) hx hb dX7_readTerm_127 (by decide) ?_
    refine lv_istore (lv' := [(8, .int (1 : Int32)), (7, .int (1 : Int32)), (9, .int (1 : Int32)), (0, .ref (qM 0)), (1, .int x1), (2, .long x2), (4, .long x4), (6, .int x6)]) hx hb dX7_readTerm_128 hl (by decide) rfl (fun ls hl => ?_)
    refine lv_aload_n hx hb dX7_readTerm_130 rfl (lv_at hl 3 rfl) ?_
    refine lv_bipush (v := (94 : Int32)) hx hb dX7_readTerm_131 (by decide) ?_
    obtain ⟨r_10, hr_10, hf⟩ := obd hf
    refine cWiV (As := [.int (94 : Int32)]) (rest := []) (W1 := ((wMd cA qM r_10.2))) ⟨hx, hb, hml, hown, hts⟩ (m_X7_takes l G cA qM r_1.2 (94 : Int32) r_10 hr_10) (cw_X7_takes hts wi_742 ⟨Nat.le_of_ble_eq_true rfl, Nat.le_of_ble_eq_true rfl⟩) hK hP hD hS [0, 1, 2, 3, 4] [5, 6, 7, 8, 9] rfl rfl rfl (by decide) rfl va_Pnil dj_nil (va_recv hK.1 hP (ci := 5) (q0 := 0) rfl rfl) rfl hl.1 rfl (Nat.le_of_ble_eq_true rfl) dX7_readTerm_133 ⟨Nat.zero_le _, Nat.zero_le _⟩ (fun H locs hP hD hS => ?_)
    refine lv_if_eq (tgt := 298) hx hb dX7_readTerm_136 (by decide) (fun c_11 => ?_) (fun c_11 => ?_)
    · rw [if_pos (c_11)] at hf
      exact b_X7_readTerm_298 qM   C0  r_10.2 x1 x2 x4 x6 (1 : Int32) (1 : Int32) (1 : Int32) H locs ls hP hD hS (lv_sub hl [3, 4, 5, 6, 7, 1, 0, 2] rfl) hf
    · rw [if_neg (c_11)] at hf
      refine lv_aload_n hx hb dX7_readTerm_139 rfl (lv_at hl 3 rfl) ?_
      refine lv_iconst (v := 0) hx hb dX7_readTerm_140 (by decide) ?_
      refine lv_bipush (v := (9 : Int32)) hx hb dX7_readTerm_141 (by decide) ?_
      obtain ⟨r_12, hr_12, hf⟩ := obd hf
      refine cWiV (As := [.int (0 : Int32), .int (9 : Int32)]) (rest := []) (W1 := ((wMd cA qM r_12.2))) ⟨hx, hb, hml, hown, hts⟩ (m_X7_readNumber l G cA qM r_10.2 (0 : Int32) (9 : Int32) r_12 hr_12) (cw_X7_readNumber hts wi_757 ⟨Nat.le_of_ble_eq_true rfl, Nat.le_of_ble_eq_true rfl⟩) hK hP hD hS [0, 1, 2, 3, 4] [5, 6, 7, 8, 9] rfl rfl rfl (by decide) rfl va_Pnil dj_nil (va_recv hK.1 hP (ci := 5) (q0 := 0) rfl rfl) rfl hl.1 rfl (Nat.le_of_ble_eq_true rfl) dX7_readTerm_143 ⟨Nat.zero_le _, Nat.zero_le _⟩ (fun H locs hP hD hS => ?_)
      refine lv_istore (lv' := [(8, .int r_12.1), (7, .int (1 : Int32)), (9, .int (1 : Int32)), (0, .ref (qM 0)), (1, .int x1), (2, .long x2), (4, .long x4), (6, .int x6)]) hx hb dX7_readTerm_146 hl (by decide) rfl (fun ls hl => ?_)
      refine lv_goto (tgt := 298) hx hb dX7_readTerm_148 (by decide) ?_
      exact b_X7_readTerm_298 qM   C0  r_12.2 x1 x2 x4 x6 (1 : Int32) r_12.1 (1 : Int32) H locs ls hP hD hS (lv_sub hl [3, 4, 5, 6, 7, 1, 0, 2] rfl) hf
def f_X7_readTerm_110 (zM : MdS) (x1 : Int32) (x2 : Int64) (x4 : Int64) (x7 : Int32) (x8 : Int32) (x9 : Int32) (v0 : Int32) : Option (MdS) := f_X7_readTerm_112  zM x1 x2 x4 v0 x7 x8 x9
set_option maxHeartbeats 4000000 in
set_option maxRecDepth 100000 in
theorem b_X7_readTerm_110 {p : Program} {l : Launch} {e : Env} {s : State} {m : MethodId} {args : Array Value} {below : List Frame} {meth : Method} {c : Code} {G : va_G} {cA : Nat → ClassId} {W9 : va_W} (qM : Nat → Nat) (C0 : Amb p s m args meth c cX7_readTerm RX7 12 none G cA (adr W9) []) {res : MdS} : ∀ (zM : MdS) (x1 : Int32) (x2 : Int64) (x4 : Int64) (x7 : Int32) (x8 : Int32) (x9 : Int32) (v0 : Int32) (H : Heap) (locs : List Loc) (ls : Array Slot), va_P G vwCl ((wMd cA qM zM)) H → va_D (adr W9) ((wMd cA qM zM)) → va_S (adr W9) s.heap H locs → lv_has ls 12 [(0, .ref (qM 0)), (1, .int x1), (2, .long x2), (4, .long x4), (7, .int x7), (8, .int x8), (9, .int x9)] → f_X7_readTerm_110 zM x1 x2 x4 x7 x8 x9 v0 = some res → W p l e rm_X7_readTerm s m args below meth c H locs 0 0 (MQ below (qWv G W9 ((wMd cA qM res))) args s 0 0 (adr W9)) (F0 m 110 ls [.int v0]) := by
  obtain ⟨hx, hb, hr, hml, hown, hts, hlocks, hK, hR, hRA⟩ := id C0
  intro zM x1 x2 x4 x7 x8 x9 v0 H locs ls hP hD hS hl hf
  unfold f_X7_readTerm_110 at hf
  refine lv_istore (lv' := [(6, .int v0), (0, .ref (qM 0)), (1, .int x1), (2, .long x2), (4, .long x4), (7, .int x7), (8, .int x8), (9, .int x9)]) hx hb dX7_readTerm_110 hl (by decide) rfl (fun ls hl => ?_)
  exact b_X7_readTerm_112 qM   C0  zM x1 x2 x4 v0 x7 x8 x9 H locs ls hP hD hS (lv_sub hl [1, 2, 3, 4, 0, 5, 6, 7] rfl) hf
def f_X7_readTerm_56 (zM : MdS) (x1 : Int32) (x2 : Int64) (x4 : Int64) (x6 : Int32) (x7 : Int32) (x8 : Int32) (x9 : Int32) : Option (MdS) := (f_X7_takes zM (120 : Int32)).bind fun r_1 => if r_1.1 = 0 then f_X7_readTerm_112  r_1.2 x1 x2 x4 x6 x7 x8 x9 else (f_X7_takes r_1.2 (94 : Int32)).bind fun r_3 => if r_3.1 = 0 then f_X7_readTerm_112  r_3.2 x1 x2 x4 (1 : Int32) x7 x8 (1 : Int32) else (f_X7_takes r_3.2 (45 : Int32)).bind fun r_5 => (f_X7_readNumber r_5.2 (0 : Int32) (12 : Int32)).bind fun r_6 => if r_5.1 = 0 then f_X7_readTerm_110  r_6.2 x1 x2 x4 x7 x8 (1 : Int32) r_6.1 else f_X7_readTerm_110  r_6.2 x1 x2 x4 x7 x8 (1 : Int32) (-r_6.1)
set_option maxHeartbeats 4000000 in
set_option maxRecDepth 100000 in
theorem b_X7_readTerm_56 {p : Program} {l : Launch} {e : Env} {s : State} {m : MethodId} {args : Array Value} {below : List Frame} {meth : Method} {c : Code} {G : va_G} {cA : Nat → ClassId} {W9 : va_W} (qM : Nat → Nat) (C0 : Amb p s m args meth c cX7_readTerm RX7 12 none G cA (adr W9) []) {res : MdS} : ∀ (zM : MdS) (x1 : Int32) (x2 : Int64) (x4 : Int64) (x6 : Int32) (x7 : Int32) (x8 : Int32) (x9 : Int32) (H : Heap) (locs : List Loc) (ls : Array Slot), va_P G vwCl ((wMd cA qM zM)) H → va_D (adr W9) ((wMd cA qM zM)) → va_S (adr W9) s.heap H locs → lv_has ls 12 [(0, .ref (qM 0)), (1, .int x1), (2, .long x2), (4, .long x4), (6, .int x6), (7, .int x7), (8, .int x8), (9, .int x9)] → f_X7_readTerm_56 zM x1 x2 x4 x6 x7 x8 x9 = some res → W p l e rm_X7_readTerm s m args below meth c H locs 0 0 (MQ below (qWv G W9 ((wMd cA qM res))) args s 0 0 (adr W9)) (F0 m 56 ls []) := by
  obtain ⟨hx, hb, hr, hml, hown, hts, hlocks, hK, hR, hRA⟩ := id C0
  intro zM x1 x2 x4 x6 x7 x8 x9 H locs ls hP hD hS hl hf
  unfold f_X7_readTerm_56 at hf
  refine lv_aload_n hx hb dX7_readTerm_56 rfl (lv_at hl 0 rfl) ?_
  refine lv_bipush (v := (120 : Int32)) hx hb dX7_readTerm_57 (by decide) ?_
  obtain ⟨r_1, hr_1, hf⟩ := obd hf
  refine cWiV (As := [.int (120 : Int32)]) (rest := []) (W1 := ((wMd cA qM r_1.2))) ⟨hx, hb, hml, hown, hts⟩ (m_X7_takes l G cA qM zM (120 : Int32) r_1 hr_1) (cw_X7_takes hts wi_742 ⟨Nat.le_of_ble_eq_true rfl, Nat.le_of_ble_eq_true rfl⟩) hK hP hD hS [0, 1, 2, 3, 4] [5, 6, 7, 8, 9] rfl rfl rfl (by decide) rfl va_Pnil dj_nil (va_recv hK.1 hP (ci := 5) (q0 := 0) rfl rfl) rfl hl.1 rfl (Nat.le_of_ble_eq_true rfl) dX7_readTerm_59 ⟨Nat.zero_le _, Nat.zero_le _⟩ (fun H locs hP hD hS => ?_)
  refine lv_if_eq (tgt := 112) hx hb dX7_readTerm_62 (by decide) (fun c_2 => ?_) (fun c_2 => ?_)
  · rw [if_pos (c_2)] at hf
    exact b_X7_readTerm_112 qM   C0  r_1.2 x1 x2 x4 x6 x7 x8 x9 H locs ls hP hD hS (lv_sub hl [0, 1, 2, 3, 4, 5, 6, 7] rfl) hf
  · rw [if_neg (c_2)] at hf
    refine lv_iconst (v := 1) hx hb dX7_readTerm_65 (by decide) ?_
    refine lv_istore (lv' := [(9, .int (1 : Int32)), (0, .ref (qM 0)), (1, .int x1), (2, .long x2), (4, .long x4), (6, .int x6), (7, .int x7), (8, .int x8)]) hx hb dX7_readTerm_66 hl (by decide) rfl (fun ls hl => ?_)
    refine lv_iconst (v := 1) hx hb dX7_readTerm_68 (by decide) ?_
    refine lv_istore (lv' := [(6, .int (1 : Int32)), (9, .int (1 : Int32)), (0, .ref (qM 0)), (1, .int x1), (2, .long x2), (4, .long x4), (7, .int x7), (8, .int x8)]) hx hb dX7_readTerm_69 hl (by decide) rfl (fun ls hl => ?_)
    refine lv_aload_n hx hb dX7_readTerm_71 rfl (lv_at hl 2 rfl) ?_
    refine lv_bipush (v := (94 : Int32)) hx hb dX7_readTerm_72 (by decide) ?_
    obtain ⟨r_3, hr_3, hf⟩ := obd hf
    refine cWiV (As := [.int (94 : Int32)]) (rest := []) (W1 := ((wMd cA qM r_3.2))) ⟨hx, hb, hml, hown, hts⟩ (m_X7_takes l G cA qM r_1.2 (94 : Int32) r_3 hr_3) (cw_X7_takes hts wi_742 ⟨Nat.le_of_ble_eq_true rfl, Nat.le_of_ble_eq_true rfl⟩) hK hP hD hS [0, 1, 2, 3, 4] [5, 6, 7, 8, 9] rfl rfl rfl (by decide) rfl va_Pnil dj_nil (va_recv hK.1 hP (ci := 5) (q0 := 0) rfl rfl) rfl hl.1 rfl (Nat.le_of_ble_eq_true rfl) dX7_readTerm_74 ⟨Nat.zero_le _, Nat.zero_le _⟩ (fun H locs hP hD hS => ?_)
    refine lv_if_eq (tgt := 112) hx hb dX7_readTerm_77 (by decide) (fun c_4 => ?_) (fun c_4 => ?_)
    · rw [if_pos (c_4)] at hf
      exact b_X7_readTerm_112 qM   C0  r_3.2 x1 x2 x4 (1 : Int32) x7 x8 (1 : Int32) H locs ls hP hD hS (lv_sub hl [2, 3, 4, 5, 0, 6, 7, 1] rfl) hf
    · rw [if_neg (c_4)] at hf
      refine lv_aload_n hx hb dX7_readTerm_80 rfl (lv_at hl 2 rfl) ?_
      refine lv_bipush (v := (45 : Int32)) hx hb dX7_readTerm_81 (by decide) ?_
      obtain ⟨r_5, hr_5, hf⟩ := obd hf
      refine cWiV (As := [.int (45 : Int32)]) (rest := []) (W1 := ((wMd cA qM r_5.2))) ⟨hx, hb, hml, hown, hts⟩ (m_X7_takes l G cA qM r_3.2 (45 : Int32) r_5 hr_5) (cw_X7_takes hts wi_742 ⟨Nat.le_of_ble_eq_true rfl, Nat.le_of_ble_eq_true rfl⟩) hK hP hD hS [0, 1, 2, 3, 4] [5, 6, 7, 8, 9] rfl rfl rfl (by decide) rfl va_Pnil dj_nil (va_recv hK.1 hP (ci := 5) (q0 := 0) rfl rfl) rfl hl.1 rfl (Nat.le_of_ble_eq_true rfl) dX7_readTerm_83 ⟨Nat.zero_le _, Nat.zero_le _⟩ (fun H locs hP hD hS => ?_)
      refine lv_istore (lv' := [(10, .int r_5.1), (6, .int (1 : Int32)), (9, .int (1 : Int32)), (0, .ref (qM 0)), (1, .int x1), (2, .long x2), (4, .long x4), (7, .int x7), (8, .int x8)]) hx hb dX7_readTerm_86 hl (by decide) rfl (fun ls hl => ?_)
      refine lv_aload_n hx hb dX7_readTerm_88 rfl (lv_at hl 3 rfl) ?_
      refine lv_iconst (v := 0) hx hb dX7_readTerm_89 (by decide) ?_
      refine lv_bipush (v := (12 : Int32)) hx hb dX7_readTerm_90 (by decide) ?_
      obtain ⟨r_6, hr_6, hf⟩ := obd hf
      refine cWiV (As := [.int (0 : Int32), .int (12 : Int32)]) (rest := []) (W1 := ((wMd cA qM r_6.2))) ⟨hx, hb, hml, hown, hts⟩ (m_X7_readNumber l G cA qM r_5.2 (0 : Int32) (12 : Int32) r_6 hr_6) (cw_X7_readNumber hts wi_757 ⟨Nat.le_of_ble_eq_true rfl, Nat.le_of_ble_eq_true rfl⟩) hK hP hD hS [0, 1, 2, 3, 4] [5, 6, 7, 8, 9] rfl rfl rfl (by decide) rfl va_Pnil dj_nil (va_recv hK.1 hP (ci := 5) (q0 := 0) rfl rfl) rfl hl.1 rfl (Nat.le_of_ble_eq_true rfl) dX7_readTerm_92 ⟨Nat.zero_le _, Nat.zero_le _⟩ (fun H locs hP hD hS => ?_)
      refine lv_istore (lv' := [(6, .int r_6.1), (10, .int r_5.1), (9, .int (1 : Int32)), (0, .ref (qM 0)), (1, .int x1), (2, .long x2), (4, .long x4), (7, .int x7), (8, .int x8)]) hx hb dX7_readTerm_95 hl (by decide) rfl (fun ls hl => ?_)
      refine lv_iload hx hb dX7_readTerm_97 (lv_at hl 1 rfl) ?_
      refine lv_if_eq (tgt := 108) hx hb dX7_readTerm_99 (by decide) (fun c_7 => ?_) (fun c_7 => ?_)
      · rw [if_pos (c_7)] at hf
        refine lv_iload hx hb dX7_readTerm_108 (lv_at hl 0 rfl) ?_
        exact b_X7_readTerm_110 qM   C0  r_6.2 x1 x2 x4 x7 x8 (1 : Int32) r_6.1 H locs ls hP hD hS (lv_sub hl [3, 4, 5, 6, 7, 8, 2] rfl) hf
      · rw [if_neg (c_7)] at hf
        refine lv_iload hx hb dX7_readTerm_102 (lv_at hl 0 rfl) ?_
        refine lv_ineg hx hb dX7_readTerm_104 ?_
        refine lv_goto (tgt := 110) hx hb dX7_readTerm_105 (by decide) ?_
        exact b_X7_readTerm_110 qM   C0  r_6.2 x1 x2 x4 x7 x8 (1 : Int32) (-r_6.1) H locs ls hP hD hS (lv_sub hl [3, 4, 5, 6, 7, 8, 2] rfl) hf
def f_X7_readTerm (zM : MdS) (a1 : Int32) : Option (MdS) := (f_X7_next zM).bind fun r_1 => (f_X7_isDigit r_1.1).bind fun r_2 => if r_2 = 0 then f_X7_readTerm_56  r_1.2 a1 (1 : Int64) (1 : Int64) (0 : Int32) (0 : Int32) (0 : Int32) (0 : Int32) else (f_X7_readNumber r_1.2 (0 : Int32) (-1 : Int32)).bind fun r_4 => (f_X7_takes r_4.2 (47 : Int32)).bind fun r_5 => if r_5.1 = 0 then f_X7_readTerm_56  r_5.2 a1 r_4.1.toInt64 (1 : Int64) (0 : Int32) (0 : Int32) (0 : Int32) (1 : Int32) else (f_X7_readNumber r_5.2 (1 : Int32) (-1 : Int32)).bind fun r_7 => f_X7_readTerm_56  r_7.2 a1 r_4.1.toInt64 r_7.1.toInt64 (0 : Int32) (0 : Int32) (0 : Int32) (1 : Int32)
set_option maxHeartbeats 4000000 in
set_option maxRecDepth 100000 in
theorem b_X7_readTerm_0 {p : Program} {l : Launch} {e : Env} {s : State} {m : MethodId} {args : Array Value} {below : List Frame} {meth : Method} {c : Code} {G : va_G} {cA : Nat → ClassId} {W9 : va_W} (qM : Nat → Nat) (C0 : Amb p s m args meth c cX7_readTerm RX7 12 none G cA (adr W9) []) {res : MdS} : ∀ (zM : MdS) (a1 : Int32) (H : Heap) (locs : List Loc) (ls : Array Slot), va_P G vwCl ((wMd cA qM zM)) H → va_D (adr W9) ((wMd cA qM zM)) → va_S (adr W9) s.heap H locs → lv_has ls 12 [(0, .ref (qM 0)), (1, .int a1)] → f_X7_readTerm zM a1 = some res → W p l e rm_X7_readTerm s m args below meth c H locs 0 0 (MQ below (qWv G W9 ((wMd cA qM res))) args s 0 0 (adr W9)) (F0 m 0 ls []) := by
  obtain ⟨hx, hb, hr, hml, hown, hts, hlocks, hK, hR, hRA⟩ := id C0
  intro zM a1 H locs ls hP hD hS hl hf
  unfold f_X7_readTerm at hf
  refine lv_lconst (v := (1 : Int64)) hx hb dX7_readTerm_0 (by decide) ?_
  refine lv_lstore_n (lv' := [(2, .long (1 : Int64)), (0, .ref (qM 0)), (1, .int a1)]) hx hb dX7_readTerm_1 rfl hl (by decide) rfl (fun ls hl => ?_)
  refine lv_lconst (v := (1 : Int64)) hx hb dX7_readTerm_2 (by decide) ?_
  refine lv_lstore (lv' := [(4, .long (1 : Int64)), (2, .long (1 : Int64)), (0, .ref (qM 0)), (1, .int a1)]) hx hb dX7_readTerm_3 hl (by decide) rfl (fun ls hl => ?_)
  refine lv_iconst (v := 0) hx hb dX7_readTerm_5 (by decide) ?_
  refine lv_istore (lv' := [(6, .int (0 : Int32)), (4, .long (1 : Int64)), (2, .long (1 : Int64)), (0, .ref (qM 0)), (1, .int a1)]) hx hb dX7_readTerm_6 hl (by decide) rfl (fun ls hl => ?_)
  refine lv_iconst (v := 0) hx hb dX7_readTerm_8 (by decide) ?_
  refine lv_istore (lv' := [(7, .int (0 : Int32)), (6, .int (0 : Int32)), (4, .long (1 : Int64)), (2, .long (1 : Int64)), (0, .ref (qM 0)), (1, .int a1)]) hx hb dX7_readTerm_9 hl (by decide) rfl (fun ls hl => ?_)
  refine lv_iconst (v := 0) hx hb dX7_readTerm_11 (by decide) ?_
  refine lv_istore (lv' := [(8, .int (0 : Int32)), (7, .int (0 : Int32)), (6, .int (0 : Int32)), (4, .long (1 : Int64)), (2, .long (1 : Int64)), (0, .ref (qM 0)), (1, .int a1)]) hx hb dX7_readTerm_12 hl (by decide) rfl (fun ls hl => ?_)
  refine lv_iconst (v := 0) hx hb dX7_readTerm_14 (by decide) ?_
  refine lv_istore (lv' := [(9, .int (0 : Int32)), (8, .int (0 : Int32)), (7, .int (0 : Int32)), (6, .int (0 : Int32)), (4, .long (1 : Int64)), (2, .long (1 : Int64)), (0, .ref (qM 0)), (1, .int a1)]) hx hb dX7_readTerm_15 hl (by decide) rfl (fun ls hl => ?_)
  refine lv_aload_n hx hb dX7_readTerm_17 rfl (lv_at hl 6 rfl) ?_
  obtain ⟨r_1, hr_1, hf⟩ := obd hf
  refine cWiV (As := []) (rest := []) (W1 := ((wMd cA qM r_1.2))) ⟨hx, hb, hml, hown, hts⟩ (m_X7_next l G cA qM zM r_1 hr_1) (cw_X7_next hts wi_746 ⟨Nat.le_of_ble_eq_true rfl, Nat.le_of_ble_eq_true rfl⟩) hK hP hD hS [0, 1, 2, 3, 4] [5, 6, 7, 8, 9] rfl rfl rfl (by decide) rfl va_Pnil dj_nil (va_recv hK.1 hP (ci := 5) (q0 := 0) rfl rfl) rfl hl.1 rfl (Nat.le_of_ble_eq_true rfl) dX7_readTerm_18 ⟨Nat.zero_le _, Nat.zero_le _⟩ (fun H locs hP hD hS => ?_)
  obtain ⟨r_2, hr_2, hf⟩ := obd hf
  refine cRiS (As := [.int r_1.1]) (rest := []) ⟨hx, hb, hml, hown, hts⟩ (m_X7_isDigit l G cA r_1.1 r_2 hr_2) (cw_X7_isDigit hts wi_754 ⟨Nat.le_of_ble_eq_true rfl, Nat.le_of_ble_eq_true rfl⟩) hK va_Pnil rfl hl.1 rfl (Nat.le_of_ble_eq_true rfl) dX7_readTerm_21 ⟨Nat.zero_le _, Nat.zero_le _⟩ ?_
  refine lv_if_eq (tgt := 56) hx hb dX7_readTerm_24 (by decide) (fun c_3 => ?_) (fun c_3 => ?_)
  · rw [if_pos (c_3)] at hf
    exact b_X7_readTerm_56 qM   C0  r_1.2 a1 (1 : Int64) (1 : Int64) (0 : Int32) (0 : Int32) (0 : Int32) (0 : Int32) H locs ls hP hD hS (lv_sub hl [6, 7, 5, 4, 3, 2, 1, 0] rfl) hf
  · rw [if_neg (c_3)] at hf
    refine lv_aload_n hx hb dX7_readTerm_27 rfl (lv_at hl 6 rfl) ?_
    refine lv_iconst (v := 0) hx hb dX7_readTerm_28 (by decide) ?_
    refine lv_iconst (v := (-1)) hx hb dX7_readTerm_29 (by decide) ?_
    obtain ⟨r_4, hr_4, hf⟩ := obd hf
    refine cWiV (As := [.int (0 : Int32), .int (-1 : Int32)]) (rest := []) (W1 := ((wMd cA qM r_4.2))) ⟨hx, hb, hml, hown, hts⟩ (m_X7_readNumber l G cA qM r_1.2 (0 : Int32) (-1 : Int32) r_4 hr_4) (cw_X7_readNumber hts wi_757 ⟨Nat.le_of_ble_eq_true rfl, Nat.le_of_ble_eq_true rfl⟩) hK hP hD hS [0, 1, 2, 3, 4] [5, 6, 7, 8, 9] rfl rfl rfl (by decide) rfl va_Pnil dj_nil (va_recv hK.1 hP (ci := 5) (q0 := 0) rfl rfl) rfl hl.1 rfl (Nat.le_of_ble_eq_true rfl) dX7_readTerm_30 ⟨Nat.zero_le _, Nat.zero_le _⟩ (fun H locs hP hD hS => ?_)
    refine lv_i2l (v := r_4.1.toInt64) hx hb dX7_readTerm_33 rfl ?_
    refine lv_lstore_n (lv' := [(2, .long r_4.1.toInt64), (9, .int (0 : Int32)), (8, .int (0 : Int32)), (7, .int (0 : Int32)), (6, .int (0 : Int32)), (4, .long (1 : Int64)), (0, .ref (qM 0)), (1, .int a1)]) hx hb dX7_readTerm_34 rfl hl (by decide) rfl (fun ls hl => ?_)
    refine lv_iconst (v := 1) hx hb dX7_readTerm_35 (by decide) ?_
    refine lv_istore (lv' := [(9, .int (1 : Int32)), (2, .long r_4.1.toInt64), (8, .int (0 : Int32)), (7, .int (0 : Int32)), (6, .int (0 : Int32)), (4, .long (1 : Int64)), (0, .ref (qM 0)), (1, .int a1)]) hx hb dX7_readTerm_36 hl (by decide) rfl (fun ls hl => ?_)
    refine lv_aload_n hx hb dX7_readTerm_38 rfl (lv_at hl 6 rfl) ?_
    refine lv_bipush (v := (47 : Int32)) hx hb dX7_readTerm_39 (by decide) ?_
    obtain ⟨r_5, hr_5, hf⟩ := obd hf
    refine cWiV (As := [.int (47 : Int32)]) (rest := []) (W1 := ((wMd cA qM r_5.2))) ⟨hx, hb, hml, hown, hts⟩ (m_X7_takes l G cA qM r_4.2 (47 : Int32) r_5 hr_5) (cw_X7_takes hts wi_742 ⟨Nat.le_of_ble_eq_true rfl, Nat.le_of_ble_eq_true rfl⟩) hK hP hD hS [0, 1, 2, 3, 4] [5, 6, 7, 8, 9] rfl rfl rfl (by decide) rfl va_Pnil dj_nil (va_recv hK.1 hP (ci := 5) (q0 := 0) rfl rfl) rfl hl.1 rfl (Nat.le_of_ble_eq_true rfl) dX7_readTerm_41 ⟨Nat.zero_le _, Nat.zero_le _⟩ (fun H locs hP hD hS => ?_)
    refine lv_if_eq (tgt := 56) hx hb dX7_readTerm_44 (by decide) (fun c_6 => ?_) (fun c_6 => ?_)
    · rw [if_pos (c_6)] at hf
      exact b_X7_readTerm_56 qM   C0  r_5.2 a1 r_4.1.toInt64 (1 : Int64) (0 : Int32) (0 : Int32) (0 : Int32) (1 : Int32) H locs ls hP hD hS (lv_sub hl [6, 7, 1, 5, 4, 3, 2, 0] rfl) hf
    · rw [if_neg (c_6)] at hf
      refine lv_aload_n hx hb dX7_readTerm_47 rfl (lv_at hl 6 rfl) ?_
      refine lv_iconst (v := 1) hx hb dX7_readTerm_48 (by decide) ?_
      refine lv_iconst (v := (-1)) hx hb dX7_readTerm_49 (by decide) ?_
      obtain ⟨r_7, hr_7, hf⟩ := obd hf
      refine cWiV (As := [.int (1 : Int32), .int (-1 : Int32)]) (rest := []) (W1 := ((wMd cA qM r_7.2))) ⟨hx, hb, hml, hown, hts⟩ (m_X7_readNumber l G cA qM r_5.2 (1 : Int32) (-1 : Int32) r_7 hr_7) (cw_X7_readNumber hts wi_757 ⟨Nat.le_of_ble_eq_true rfl, Nat.le_of_ble_eq_true rfl⟩) hK hP hD hS [0, 1, 2, 3, 4] [5, 6, 7, 8, 9] rfl rfl rfl (by decide) rfl va_Pnil dj_nil (va_recv hK.1 hP (ci := 5) (q0 := 0) rfl rfl) rfl hl.1 rfl (Nat.le_of_ble_eq_true rfl) dX7_readTerm_50 ⟨Nat.zero_le _, Nat.zero_le _⟩ (fun H locs hP hD hS => ?_)
      refine lv_i2l (v := r_7.1.toInt64) hx hb dX7_readTerm_53 rfl ?_
      refine lv_lstore (lv' := [(4, .long r_7.1.toInt64), (9, .int (1 : Int32)), (2, .long r_4.1.toInt64), (8, .int (0 : Int32)), (7, .int (0 : Int32)), (6, .int (0 : Int32)), (0, .ref (qM 0)), (1, .int a1)]) hx hb dX7_readTerm_54 hl (by decide) rfl (fun ls hl => ?_)
      exact b_X7_readTerm_56 qM   C0  r_7.2 a1 r_4.1.toInt64 r_7.1.toInt64 (0 : Int32) (0 : Int32) (0 : Int32) (1 : Int32) H locs ls hP hD hS (lv_sub hl [6, 7, 2, 0, 5, 4, 3, 1] rfl) hf

set_option maxRecDepth 100000 in
theorem m_X7_readTerm (l : Launch) (G : va_G) (cA : Nat → ClassId) (qM : Nat → Nat) (zM : MdS) (a1 : Int32) (res : MdS) (hf : f_X7_readTerm zM a1 = some res) : MWv l yX7_readTerm (.code yX7_readTerm cX7_readTerm 12 none :: wd) rm_X7_readTerm G cA [.ref (qM 0), .int a1] ((wMd cA qM zM)) [] ((wMd cA qM res)) := by
  refine Met.ofW (cc := cX7_readTerm) (maxL := 12) (ret := none) (by decide) rfl ?_
  intro p e s m args below meth c s₁ B hml hv
  obtain ⟨rfl, hK, hP, hD0, hR, hRA⟩ := hv
  have C0 : Amb p s m ([.ref (qM 0), .int a1] : List Value).toArray meth c cX7_readTerm RX7 12 none G cA (adr ((wMd cA qM zM))) [] := ⟨B.exec, B.bytes, B.returns, hml, findClass_of_methodNamed B.named, fun w h => atoms_spec (ws := (.code yX7_readTerm cX7_readTerm 12 none :: wd)) B.pre w (List.mem_cons_of_mem _ h), B.notSynchronized, hK, hR, hRA⟩
  have hl := lv_entry ([.ref (qM 0), .int a1]) (n := 12) (Nat.le_of_ble_eq_true rfl)
  rw [lg_entry_eq]
  generalize (lg_sl ([.ref (qM 0), .int a1]) ++ List.replicate (12 - (lg_sl ([.ref (qM 0), .int a1])).length) Slot.unset).toArray = ls at hl ⊢
  have hl : lv_has ls 12 [(0, .ref (qM 0)), (1, .int a1)] := hl
  exact b_X7_readTerm_0 (W9 := ((wMd cA qM zM))) qM   C0 zM a1 s.heap [] ls hP (adr.self hD0) va_S.rf hl hf
theorem cw_X7_readTerm {R : Room} {s : State} {args : Array Value} {own : String} {index : Nat} (ht : ∀ w ∈ wd, w.before args s = true) (hlink : Cond.methodLink own index yX7_readTerm ∈ wd) (hR : rm_X7_readTerm.frames + 1 ≤ R.frames ∧ 8 + (12 + 11) + rm_X7_readTerm.locals ≤ R.locals) : CallW R s args own RX7 index yX7_readTerm cX7_readTerm 12 none (.code yX7_readTerm cX7_readTerm 12 none :: wd) rm_X7_readTerm 0 0 1 := cwV9 1 ht wi_753 wi_752 wi_33 wi_60 hlink (by decide +kernel) rfl rfl hR
