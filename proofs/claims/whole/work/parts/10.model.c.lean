def rm_X7_copy : Room := { frames := 0, cells := 0, slots := 0, locals := 0 }
def f_X7_copy_2  : Nat → MdS → Int32 → Int32 → Int32 → Option (MdS)
  | 0, _, _, _, _ => none
  | fu + 1, zM, x1, x2, x3 => if (1150 : Int32) ≤ x3 then some zM else if inb (((1150 : Int32) * x2) + x3) nUD = true then if inb (((1150 : Int32) * x1) + x3) nUD = true then if inb (((1150 : Int32) * x2) + x3) nUD = true then if inb (((1150 : Int32) * x1) + x3) nUD = true then f_X7_copy_2  fu (uM_down (uM_up zM (vp_updL (gM_up zM) (((1150 : Int32) * x1) + x3).toNatClampNeg (gM_up zM (((1150 : Int32) * x2) + x3).toNatClampNeg))) (vp_updL (gM_down (uM_up zM (vp_updL (gM_up zM) (((1150 : Int32) * x1) + x3).toNatClampNeg (gM_up zM (((1150 : Int32) * x2) + x3).toNatClampNeg)))) (((1150 : Int32) * x1) + x3).toNatClampNeg (gM_down (uM_up zM (vp_updL (gM_up zM) (((1150 : Int32) * x1) + x3).toNatClampNeg (gM_up zM (((1150 : Int32) * x2) + x3).toNatClampNeg))) (((1150 : Int32) * x2) + x3).toNatClampNeg))) x1 x2 (x3 + 1) else none else none else none else none
set_option maxHeartbeats 4000000 in
set_option maxRecDepth 100000 in
theorem b_X7_copy_2 {p : Program} {l : Launch} {e : Env} {s : State} {m : MethodId} {args : Array Value} {below : List Frame} {meth : Method} {c : Code} {G : va_G} {cA : Nat → ClassId} {W9 : va_W} (qM : Nat → Nat) (C0 : Amb p s m args meth c cX7_copy RX7 4 none G cA (adr W9) []) {res : MdS} : ∀ (fu : Nat) (zM : MdS) (x1 : Int32) (x2 : Int32) (x3 : Int32) (H : Heap) (locs : List Loc) (ls : Array Slot), va_P G vwCl ((wMd cA qM zM)) H → va_D (adr W9) ((wMd cA qM zM)) → va_S (adr W9) s.heap H locs → lv_has ls 4 [(0, .ref (qM 0)), (1, .int x1), (2, .int x2), (3, .int x3)] → f_X7_copy_2 fu zM x1 x2 x3 = some res → W p l e rm_X7_copy s m args below meth c H locs 0 0 (MQ below (qWv G W9 ((wMd cA qM res))) args s 0 0 (adr W9)) (F0 m 2 ls []) := by
  obtain ⟨hx, hb, hr, hml, hown, hts, hlocks, hK, hR, hRA⟩ := id C0
  intro fu
  induction fu with
  | zero =>
    intro zM x1 x2 x3 H locs ls hP hD hS hl hf
    rw [f_X7_copy_2] at hf
    cases hf
  | succ fu ih =>
    intro zM x1 x2 x3 H locs ls hP hD hS hl hf
    rw [f_X7_copy_2] at hf
    refine lv_iload_n hx hb dX7_copy_2 rfl (lv_at hl 3 rfl) ?_
    refine lv_sipush (v := (1150 : Int32)) hx hb dX7_copy_3 (by decide) ?_
    refine lv_icmp_ge (tgt := 63) hx hb dX7_copy_6 (by decide) (fun c_1 => ?_) (fun c_1 => ?_)
    · rw [if_pos (c_1)] at hf
      cases hf
      exact W.vret hx hb hr (fun t ht hW => ⟨⟨(), rfl, trivial, toT ht hP⟩, hS.F ht⟩) hS.2.2 dX7_copy_63 hlocks
    · rw [if_neg (c_1)] at hf
      refine lv_aload_n hx hb dX7_copy_9 rfl (lv_at hl 0 rfl) ?_
      refine va_get (D := G) (ci := 5) (v := .ref (qM 3)) (C := RX7) (T := TX7) (N := 13) hx hb hts fin_X7 hown hK.1 hP 0 rfl rfl 6 (by decide) (hts _ wi_677) (fun _ h9 => h9) rfl dX7_copy_10 ?_
      refine lv_sipush (v := (1150 : Int32)) hx hb dX7_copy_13 (by decide) ?_
      refine lv_iload_n hx hb dX7_copy_16 rfl (lv_at hl 1 rfl) ?_
      refine lv_imul hx hb dX7_copy_17 ?_
      refine lv_iload_n hx hb dX7_copy_18 rfl (lv_at hl 3 rfl) ?_
      refine lv_iadd hx hb dX7_copy_19 ?_
      refine lv_aload_n hx hb dX7_copy_20 rfl (lv_at hl 0 rfl) ?_
      refine va_get (D := G) (ci := 5) (v := .ref (qM 3)) (C := RX7) (T := TX7) (N := 13) hx hb hts fin_X7 hown hK.1 hP 0 rfl rfl 6 (by decide) (hts _ wi_677) (fun _ h9 => h9) rfl dX7_copy_21 ?_
      refine lv_sipush (v := (1150 : Int32)) hx hb dX7_copy_24 (by decide) ?_
      refine lv_iload_n hx hb dX7_copy_27 rfl (lv_at hl 2 rfl) ?_
      refine lv_imul hx hb dX7_copy_28 ?_
      refine lv_iload_n hx hb dX7_copy_29 rfl (lv_at hl 3 rfl) ?_
      refine lv_iadd hx hb dX7_copy_30 ?_
      obtain ⟨hi_2, hf⟩ := oif hf
      refine va_lald hx hb hK.1 hP 3 1 rfl rfl (inb_in hi_2) dX7_copy_31 ?_
      obtain ⟨hi_3, hf⟩ := oif hf
      refine va_last hx hb hK.1 hP hD hS 3 1 rfl rfl (inb_in hi_3) dX7_copy_32 (fun H locs hP hD hS => ?_)
      have hP := sM_up_P hP
      have hD := sM_up_D hD
      refine lv_aload_n hx hb dX7_copy_33 rfl (lv_at hl 0 rfl) ?_
      refine va_get (D := G) (ci := 5) (v := .ref (qM 4)) (C := RX7) (T := TX7) (N := 13) hx hb hts fin_X7 hown hK.1 hP 0 rfl rfl 7 (by decide) (hts _ wi_678) (fun _ h9 => h9) rfl dX7_copy_34 ?_
      refine lv_sipush (v := (1150 : Int32)) hx hb dX7_copy_37 (by decide) ?_
      refine lv_iload_n hx hb dX7_copy_40 rfl (lv_at hl 1 rfl) ?_
      refine lv_imul hx hb dX7_copy_41 ?_
      refine lv_iload_n hx hb dX7_copy_42 rfl (lv_at hl 3 rfl) ?_
      refine lv_iadd hx hb dX7_copy_43 ?_
      refine lv_aload_n hx hb dX7_copy_44 rfl (lv_at hl 0 rfl) ?_
      refine va_get (D := G) (ci := 5) (v := .ref (qM 4)) (C := RX7) (T := TX7) (N := 13) hx hb hts fin_X7 hown hK.1 hP 0 rfl rfl 7 (by decide) (hts _ wi_678) (fun _ h9 => h9) rfl dX7_copy_45 ?_
      refine lv_sipush (v := (1150 : Int32)) hx hb dX7_copy_48 (by decide) ?_
      refine lv_iload_n hx hb dX7_copy_51 rfl (lv_at hl 2 rfl) ?_
      refine lv_imul hx hb dX7_copy_52 ?_
      refine lv_iload_n hx hb dX7_copy_53 rfl (lv_at hl 3 rfl) ?_
      refine lv_iadd hx hb dX7_copy_54 ?_
      obtain ⟨hi_4, hf⟩ := oif hf
      refine va_lald hx hb hK.1 hP 4 1 rfl rfl (inb_in hi_4) dX7_copy_55 ?_
      obtain ⟨hi_5, hf⟩ := oif hf
      refine va_last hx hb hK.1 hP hD hS 4 1 rfl rfl (inb_in hi_5) dX7_copy_56 (fun H locs hP hD hS => ?_)
      have hP := sM_down_P hP
      have hD := sM_down_D hD
      refine lv_iinc (v := (x3 + 1)) (lv' := [(3, .int (x3 + 1)), (0, .ref (qM 0)), (1, .int x1), (2, .int x2)]) hx hb dX7_copy_57 hl (k := 3) rfl rfl (by decide) rfl (fun ls hl => ?_)
      refine lv_goto (tgt := 2) hx hb dX7_copy_60 (by decide) ?_
      exact ih (uM_down (uM_up zM (vp_updL (gM_up zM) (((1150 : Int32) * x1) + x3).toNatClampNeg (gM_up zM (((1150 : Int32) * x2) + x3).toNatClampNeg))) (vp_updL (gM_down (uM_up zM (vp_updL (gM_up zM) (((1150 : Int32) * x1) + x3).toNatClampNeg (gM_up zM (((1150 : Int32) * x2) + x3).toNatClampNeg)))) (((1150 : Int32) * x1) + x3).toNatClampNeg (gM_down (uM_up zM (vp_updL (gM_up zM) (((1150 : Int32) * x1) + x3).toNatClampNeg (gM_up zM (((1150 : Int32) * x2) + x3).toNatClampNeg))) (((1150 : Int32) * x2) + x3).toNatClampNeg))) x1 x2 (x3 + 1) H locs ls hP hD hS (lv_sub hl [1, 2, 3, 0] rfl) hf
def f_X7_copy (zM : MdS) (a1 : Int32) (a2 : Int32) : Option (MdS) := f_X7_copy_2 fuel zM a1 a2 (0 : Int32)
set_option maxHeartbeats 4000000 in
set_option maxRecDepth 100000 in
theorem b_X7_copy_0 {p : Program} {l : Launch} {e : Env} {s : State} {m : MethodId} {args : Array Value} {below : List Frame} {meth : Method} {c : Code} {G : va_G} {cA : Nat → ClassId} {W9 : va_W} (qM : Nat → Nat) (C0 : Amb p s m args meth c cX7_copy RX7 4 none G cA (adr W9) []) {res : MdS} : ∀ (zM : MdS) (a1 : Int32) (a2 : Int32) (H : Heap) (locs : List Loc) (ls : Array Slot), va_P G vwCl ((wMd cA qM zM)) H → va_D (adr W9) ((wMd cA qM zM)) → va_S (adr W9) s.heap H locs → lv_has ls 4 [(0, .ref (qM 0)), (1, .int a1), (2, .int a2)] → f_X7_copy zM a1 a2 = some res → W p l e rm_X7_copy s m args below meth c H locs 0 0 (MQ below (qWv G W9 ((wMd cA qM res))) args s 0 0 (adr W9)) (F0 m 0 ls []) := by
  obtain ⟨hx, hb, hr, hml, hown, hts, hlocks, hK, hR, hRA⟩ := id C0
  intro zM a1 a2 H locs ls hP hD hS hl hf
  unfold f_X7_copy at hf
  refine lv_iconst (v := 0) hx hb dX7_copy_0 (by decide) ?_
  refine lv_istore_n (lv' := [(3, .int (0 : Int32)), (0, .ref (qM 0)), (1, .int a1), (2, .int a2)]) hx hb dX7_copy_1 rfl hl (by decide) rfl (fun ls hl => ?_)
  exact b_X7_copy_2 qM   C0  fuel zM a1 a2 (0 : Int32) H locs ls hP hD hS (lv_sub hl [1, 2, 3, 0] rfl) hf

set_option maxRecDepth 100000 in
theorem m_X7_copy (l : Launch) (G : va_G) (cA : Nat → ClassId) (qM : Nat → Nat) (zM : MdS) (a1 : Int32) (a2 : Int32) (res : MdS) (hf : f_X7_copy zM a1 a2 = some res) : MWv l yX7_copy (.code yX7_copy cX7_copy 4 none :: wd) rm_X7_copy G cA [.ref (qM 0), .int a1, .int a2] ((wMd cA qM zM)) [] ((wMd cA qM res)) := by
  refine Met.ofW (cc := cX7_copy) (maxL := 4) (ret := none) (by decide) rfl ?_
  intro p e s m args below meth c s₁ B hml hv
  obtain ⟨rfl, hK, hP, hD0, hR, hRA⟩ := hv
  have C0 : Amb p s m ([.ref (qM 0), .int a1, .int a2] : List Value).toArray meth c cX7_copy RX7 4 none G cA (adr ((wMd cA qM zM))) [] := ⟨B.exec, B.bytes, B.returns, hml, findClass_of_methodNamed B.named, fun w h => atoms_spec (ws := (.code yX7_copy cX7_copy 4 none :: wd)) B.pre w (List.mem_cons_of_mem _ h), B.notSynchronized, hK, hR, hRA⟩
  have hl := lv_entry ([.ref (qM 0), .int a1, .int a2]) (n := 4) (Nat.le_of_ble_eq_true rfl)
  rw [lg_entry_eq]
  generalize (lg_sl ([.ref (qM 0), .int a1, .int a2]) ++ List.replicate (4 - (lg_sl ([.ref (qM 0), .int a1, .int a2])).length) Slot.unset).toArray = ls at hl ⊢
  have hl : lv_has ls 4 [(0, .ref (qM 0)), (1, .int a1), (2, .int a2)] := hl
  exact b_X7_copy_0 (W9 := ((wMd cA qM zM))) qM   C0 zM a1 a2 s.heap [] ls hP (adr.self hD0) va_S.rf hl hf
theorem cw_X7_copy {R : Room} {s : State} {args : Array Value} {own : String} {index : Nat} (ht : ∀ w ∈ wd, w.before args s = true) (hlink : Cond.methodLink own index yX7_copy ∈ wd) (hR : rm_X7_copy.frames + 1 ≤ R.frames ∧ 8 + (4 + 11) + rm_X7_copy.locals ≤ R.locals) : CallW R s args own RX7 index yX7_copy cX7_copy 4 none (.code yX7_copy cX7_copy 4 none :: wd) rm_X7_copy 0 0 2 := cwV9 2 ht wi_805 wi_804 wi_43 wi_60 hlink (by decide +kernel) rfl rfl hR
def rm_X7_finish : Room := { frames := 2, cells := 0, slots := 0, locals := 46 }
def f_X7_finish (zM : MdS) (a1 : Int32) : Option (Int32 × MdS) := (f_X7_fits zM (8 : Int32)).bind fun r_1 => if ¬ r_1 = 0 then (f_X7_copy zM a1 (8 : Int32)).bind fun r_3 => (f_X7_termsOf r_3 a1).bind fun r_4 => some (r_4, r_3) else some ((-4 : Int32), zM)
set_option maxHeartbeats 4000000 in
set_option maxRecDepth 100000 in
theorem b_X7_finish_0 {p : Program} {l : Launch} {e : Env} {s : State} {m : MethodId} {args : Array Value} {below : List Frame} {meth : Method} {c : Code} {G : va_G} {cA : Nat → ClassId} {W9 : va_W} (qM : Nat → Nat) (C0 : Amb p s m args meth c cX7_finish RX7 2 (some .int) G cA (adr W9) []) {res : Int32 × MdS} : ∀ (zM : MdS) (a1 : Int32) (H : Heap) (locs : List Loc) (ls : Array Slot), va_P G vwCl ((wMd cA qM zM)) H → va_D (adr W9) ((wMd cA qM zM)) → va_S (adr W9) s.heap H locs → lv_has ls 2 [(0, .ref (qM 0)), (1, .int a1)] → f_X7_finish zM a1 = some res → W p l e rm_X7_finish s m args below meth c H locs 0 0 (MQ below (qWi G W9 ((wMd cA qM res.2)) res.1) args s 0 0 (adr W9)) (F0 m 0 ls []) := by
  obtain ⟨hx, hb, hr, hml, hown, hts, hlocks, hK, hR, hRA⟩ := id C0
  intro zM a1 H locs ls hP hD hS hl hf
  unfold f_X7_finish at hf
  refine lv_aload_n hx hb dX7_finish_0 rfl (lv_at hl 0 rfl) ?_
  refine lv_bipush (v := (8 : Int32)) hx hb dX7_finish_1 (by decide) ?_
  obtain ⟨r_1, hr_1, hf⟩ := obd hf
  refine cRiV (As := [.int (8 : Int32)]) (rest := []) ⟨hx, hb, hml, hown, hts⟩ (m_X7_fits l G cA qM zM (8 : Int32) r_1 hr_1) (cw_X7_fits hts wi_794 ⟨Nat.le_of_ble_eq_true rfl, Nat.le_of_ble_eq_true rfl⟩) hK (pk hP [0, 1, 2, 3, 4] rfl) (va_recv hK.1 hP (ci := 5) (q0 := 0) rfl rfl) rfl hl.1 rfl (Nat.le_of_ble_eq_true rfl) dX7_finish_3 ⟨Nat.zero_le _, Nat.zero_le _⟩ ?_
  refine lv_if_ne (tgt := 12) hx hb dX7_finish_6 (by decide) (fun c_2 => ?_) (fun c_2 => ?_)
  · rw [if_pos (c_2)] at hf
    refine lv_aload_n hx hb dX7_finish_12 rfl (lv_at hl 0 rfl) ?_
    refine lv_iload_n hx hb dX7_finish_13 rfl (lv_at hl 1 rfl) ?_
    refine lv_bipush (v := (8 : Int32)) hx hb dX7_finish_14 (by decide) ?_
    obtain ⟨r_3, hr_3, hf⟩ := obd hf
    refine cWvV (As := [.int a1, .int (8 : Int32)]) (rest := []) (W1 := ((wMd cA qM r_3))) ⟨hx, hb, hml, hown, hts⟩ (m_X7_copy l G cA qM zM a1 (8 : Int32) r_3 hr_3) (cw_X7_copy hts wi_802 ⟨Nat.le_of_ble_eq_true rfl, Nat.le_of_ble_eq_true rfl⟩) hK hP hD hS [0, 1, 2, 3, 4] [5, 6, 7, 8, 9] rfl rfl rfl (by decide) rfl va_Pnil dj_nil (va_recv hK.1 hP (ci := 5) (q0 := 0) rfl rfl) rfl hl.1 rfl (Nat.le_of_ble_eq_true rfl) dX7_finish_16 ⟨Nat.zero_le _, Nat.zero_le _⟩ (fun H locs hP hD hS => ?_)
    refine lv_aload_n hx hb dX7_finish_19 rfl (lv_at hl 0 rfl) ?_
    refine lv_iload_n hx hb dX7_finish_20 rfl (lv_at hl 1 rfl) ?_
    obtain ⟨r_4, hr_4, hf⟩ := obd hf
    refine cRiV (As := [.int a1]) (rest := []) ⟨hx, hb, hml, hown, hts⟩ (m_X7_termsOf l G cA qM r_3 a1 r_4 hr_4) (cw_X7_termsOf hts wi_798 ⟨Nat.le_of_ble_eq_true rfl, Nat.le_of_ble_eq_true rfl⟩) hK (pk hP [0, 1, 2, 3, 4] rfl) (va_recv hK.1 hP (ci := 5) (q0 := 0) rfl rfl) rfl hl.1 rfl (Nat.le_of_ble_eq_true rfl) dX7_finish_21 ⟨Nat.zero_le _, Nat.zero_le _⟩ ?_
    cases hf
    exact W.iret hx hb hr (fun t ht hW => ⟨⟨_, (), rfl, rfl, toT ht hP⟩, hS.F ht⟩) hS.2.2 dX7_finish_24 hlocks
  · rw [if_neg (not_not_intro c_2)] at hf
    refine lv_bipush (v := (-4 : Int32)) hx hb dX7_finish_9 (by decide) ?_
    cases hf
    exact W.iret hx hb hr (fun t ht hW => ⟨⟨_, (), rfl, rfl, toT ht hP⟩, hS.F ht⟩) hS.2.2 dX7_finish_11 hlocks

set_option maxRecDepth 100000 in
theorem m_X7_finish (l : Launch) (G : va_G) (cA : Nat → ClassId) (qM : Nat → Nat) (zM : MdS) (a1 : Int32) (res : Int32 × MdS) (hf : f_X7_finish zM a1 = some res) : MWi l yX7_finish (.code yX7_finish cX7_finish 2 (some .int) :: wd) rm_X7_finish G cA [.ref (qM 0), .int a1] ((wMd cA qM zM)) [] ((wMd cA qM res.2)) res.1 := by
  refine Met.ofW (cc := cX7_finish) (maxL := 2) (ret := (some .int)) (by decide) rfl ?_
  intro p e s m args below meth c s₁ B hml hv
  obtain ⟨rfl, hK, hP, hD0, hR, hRA⟩ := hv
  have C0 : Amb p s m ([.ref (qM 0), .int a1] : List Value).toArray meth c cX7_finish RX7 2 (some .int) G cA (adr ((wMd cA qM zM))) [] := ⟨B.exec, B.bytes, B.returns, hml, findClass_of_methodNamed B.named, fun w h => atoms_spec (ws := (.code yX7_finish cX7_finish 2 (some .int) :: wd)) B.pre w (List.mem_cons_of_mem _ h), B.notSynchronized, hK, hR, hRA⟩
  have hl := lv_entry ([.ref (qM 0), .int a1]) (n := 2) (Nat.le_of_ble_eq_true rfl)
  rw [lg_entry_eq]
  generalize (lg_sl ([.ref (qM 0), .int a1]) ++ List.replicate (2 - (lg_sl ([.ref (qM 0), .int a1])).length) Slot.unset).toArray = ls at hl ⊢
  have hl : lv_has ls 2 [(0, .ref (qM 0)), (1, .int a1)] := hl
  exact b_X7_finish_0 (W9 := ((wMd cA qM zM))) qM   C0 zM a1 s.heap [] ls hP (adr.self hD0) va_S.rf hl hf
theorem cw_X7_finish {R : Room} {s : State} {args : Array Value} {own : String} {index : Nat} (ht : ∀ w ∈ wd, w.before args s = true) (hlink : Cond.methodLink own index yX7_finish ∈ wd) (hR : rm_X7_finish.frames + 1 ≤ R.frames ∧ 8 + (2 + 11) + rm_X7_finish.locals ≤ R.locals) : CallW R s args own RX7 index yX7_finish cX7_finish 2 (some .int) (.code yX7_finish cX7_finish 2 (some .int) :: wd) rm_X7_finish 0 0 1 := cwV9 1 ht wi_793 wi_792 wi_40 wi_60 hlink (by decide +kernel) rfl rfl hR
def rm_X7_putCell : Room := { frames := 0, cells := 0, slots := 0, locals := 0 }
def f_X7_putCell_32 (zM : MdS) : Option (MdS) := some (uM_lineSize zM ((gM_lineSize zM) + (1 : Int32)))
set_option maxHeartbeats 4000000 in
set_option maxRecDepth 100000 in
theorem b_X7_putCell_32 {p : Program} {l : Launch} {e : Env} {s : State} {m : MethodId} {args : Array Value} {below : List Frame} {meth : Method} {c : Code} {G : va_G} {cA : Nat → ClassId} {W9 : va_W} (qM : Nat → Nat) (C0 : Amb p s m args meth c cX7_putCell RX7 4 none G cA (adr W9) []) {res : MdS} : ∀ (zM : MdS) (H : Heap) (locs : List Loc) (ls : Array Slot), va_P G vwCl ((wMd cA qM zM)) H → va_D (adr W9) ((wMd cA qM zM)) → va_S (adr W9) s.heap H locs → lv_has ls 4 [(0, .ref (qM 0))] → f_X7_putCell_32 zM = some res → W p l e rm_X7_putCell s m args below meth c H locs 0 0 (MQ below (qWv G W9 ((wMd cA qM res))) args s 0 0 (adr W9)) (F0 m 32 ls []) := by
  obtain ⟨hx, hb, hr, hml, hown, hts, hlocks, hK, hR, hRA⟩ := id C0
  intro zM H locs ls hP hD hS hl hf
  unfold f_X7_putCell_32 at hf
  refine lv_aload_n hx hb dX7_putCell_32 rfl (lv_at hl 0 rfl) ?_
  refine lv_dup hx hb dX7_putCell_33 rfl ?_
  refine va_get (D := G) (ci := 5) (v := .int (gM_lineSize zM)) (C := RX7) (T := TX7) (N := 13) hx hb hts fin_X7 hown hK.1 hP 0 rfl rfl 2 (by decide) (hts _ wi_673) (fun _ h9 => h9) rfl dX7_putCell_34 ?_
  refine lv_iconst (v := 1) hx hb dX7_putCell_37 (by decide) ?_
  refine lv_iadd hx hb dX7_putCell_38 ?_
  refine va_put (D := G) (ci := 5) (v := .int ((gM_lineSize zM) + (1 : Int32))) (ty := .int) (C := RX7) (T := TX7) (N := 13) hx hb hts fin_X7 tyX7 tyX7_ok nmX7 hown hK.1 hP hD hS 0 rfl rfl 2 (by decide) (hts _ wi_673) (fun _ h9 => h9) rfl (by decide +kernel) rfl rfl (Nat.le_of_ble_eq_true rfl) dX7_putCell_39 (fun H locs hP hD hS => ?_)
  have hP := sM_lineSize_P hP
  have hD := sM_lineSize_D hD
  cases hf
  exact W.vret hx hb hr (fun t ht hW => ⟨⟨(), rfl, trivial, toT ht hP⟩, hS.F ht⟩) hS.2.2 dX7_putCell_42 hlocks
def f_X7_putCell (zM : MdS) (a1 : Int32) (a2 : Int32) : Option (MdS) := (some (((a1 >>> (a2 &&& 31)) &&& (255 : Int32)))).bind fun y_1 => if y_1 ≤ 0 then some zM else if (100 : Int32) ≤ (gM_lineSize zM) then f_X7_putCell_32  zM else if inb (gM_lineSize zM) 100 = true then f_X7_putCell_32  (uM_line zM (upd (gM_line zM) (gM_lineSize zM).toNatClampNeg (vp_nar .char (((y_1).toUInt32 % 65536).toInt32)))) else none
set_option maxHeartbeats 4000000 in
set_option maxRecDepth 100000 in
theorem b_X7_putCell_0 {p : Program} {l : Launch} {e : Env} {s : State} {m : MethodId} {args : Array Value} {below : List Frame} {meth : Method} {c : Code} {G : va_G} {cA : Nat → ClassId} {W9 : va_W} (qM : Nat → Nat) (C0 : Amb p s m args meth c cX7_putCell RX7 4 none G cA (adr W9) []) {res : MdS} : ∀ (zM : MdS) (a1 : Int32) (a2 : Int32) (H : Heap) (locs : List Loc) (ls : Array Slot), va_P G vwCl ((wMd cA qM zM)) H → va_D (adr W9) ((wMd cA qM zM)) → va_S (adr W9) s.heap H locs → lv_has ls 4 [(0, .ref (qM 0)), (1, .int a1), (2, .int a2)] → f_X7_putCell zM a1 a2 = some res → W p l e rm_X7_putCell s m args below meth c H locs 0 0 (MQ below (qWv G W9 ((wMd cA qM res))) args s 0 0 (adr W9)) (F0 m 0 ls []) := by
  obtain ⟨hx, hb, hr, hml, hown, hts, hlocks, hK, hR, hRA⟩ := id C0
  intro zM a1 a2 H locs ls hP hD hS hl hf
  unfold f_X7_putCell at hf
  refine lv_iload_n hx hb dX7_putCell_0 rfl (lv_at hl 1 rfl) ?_
  refine lv_iload_n hx hb dX7_putCell_1 rfl (lv_at hl 2 rfl) ?_
  refine lv_ishr hx hb dX7_putCell_2 ?_
  refine lv_sipush (v := (255 : Int32)) hx hb dX7_putCell_3 (by decide) ?_
  refine lv_iand hx hb dX7_putCell_6 ?_
  obtain ⟨y_1, hq, hf⟩ := obd hf
  have hy_1 : ((a1 >>> (a2 &&& 31)) &&& (255 : Int32)) = y_1 := Option.some.inj hq
  rw [hy_1]
  refine lv_istore_n (lv' := [(3, .int y_1), (0, .ref (qM 0)), (1, .int a1), (2, .int a2)]) hx hb dX7_putCell_7 rfl hl (by decide) rfl (fun ls hl => ?_)
  refine lv_iload_n hx hb dX7_putCell_8 rfl (lv_at hl 0 rfl) ?_
  refine lv_if_le (tgt := 42) hx hb dX7_putCell_9 (by decide) (fun c_2 => ?_) (fun c_2 => ?_)
  · rw [if_pos (c_2)] at hf
    cases hf
    exact W.vret hx hb hr (fun t ht hW => ⟨⟨(), rfl, trivial, toT ht hP⟩, hS.F ht⟩) hS.2.2 dX7_putCell_42 hlocks
  · rw [if_neg (c_2)] at hf
    refine lv_aload_n hx hb dX7_putCell_12 rfl (lv_at hl 1 rfl) ?_
    refine va_get (D := G) (ci := 5) (v := .int (gM_lineSize zM)) (C := RX7) (T := TX7) (N := 13) hx hb hts fin_X7 hown hK.1 hP 0 rfl rfl 2 (by decide) (hts _ wi_673) (fun _ h9 => h9) rfl dX7_putCell_13 ?_
    refine lv_bipush (v := (100 : Int32)) hx hb dX7_putCell_16 (by decide) ?_
    refine lv_icmp_ge (tgt := 32) hx hb dX7_putCell_18 (by decide) (fun c_3 => ?_) (fun c_3 => ?_)
    · rw [if_pos (c_3)] at hf
      exact b_X7_putCell_32 qM   C0  zM H locs ls hP hD hS (lv_sub hl [1] rfl) hf
    · rw [if_neg (c_3)] at hf
      refine lv_aload_n hx hb dX7_putCell_21 rfl (lv_at hl 1 rfl) ?_
      refine va_get (D := G) (ci := 5) (v := .ref (qM 1)) (C := RX7) (T := TX7) (N := 13) hx hb hts fin_X7 hown hK.1 hP 0 rfl rfl 1 (by decide) (hts _ wi_672) (fun _ h9 => h9) rfl dX7_putCell_22 ?_
      refine lv_aload_n hx hb dX7_putCell_25 rfl (lv_at hl 1 rfl) ?_
      refine va_get (D := G) (ci := 5) (v := .int (gM_lineSize zM)) (C := RX7) (T := TX7) (N := 13) hx hb hts fin_X7 hown hK.1 hP 0 rfl rfl 2 (by decide) (hts _ wi_673) (fun _ h9 => h9) rfl dX7_putCell_26 ?_
      refine lv_iload_n hx hb dX7_putCell_29 rfl (lv_at hl 0 rfl) ?_
      refine lv_i2c hx hb dX7_putCell_30 rfl ?_
      obtain ⟨hi_4, hf⟩ := oif hf
      refine va_cast hx hb hK.1 hP hD hS 1 2 rfl rfl (inb_in hi_4) dX7_putCell_31 (fun H locs hP hD hS => ?_)
      have hP := sM_line_P hP
      have hD := sM_line_D hD
      exact b_X7_putCell_32 qM   C0  (uM_line zM (upd (gM_line zM) (gM_lineSize zM).toNatClampNeg (vp_nar .char (((y_1).toUInt32 % 65536).toInt32)))) H locs ls hP hD hS (lv_sub hl [1] rfl) hf

set_option maxRecDepth 100000 in
theorem m_X7_putCell (l : Launch) (G : va_G) (cA : Nat → ClassId) (qM : Nat → Nat) (zM : MdS) (a1 : Int32) (a2 : Int32) (res : MdS) (hf : f_X7_putCell zM a1 a2 = some res) : MWv l yX7_putCell (.code yX7_putCell cX7_putCell 4 none :: wd) rm_X7_putCell G cA [.ref (qM 0), .int a1, .int a2] ((wMd cA qM zM)) [] ((wMd cA qM res)) := by
  refine Met.ofW (cc := cX7_putCell) (maxL := 4) (ret := none) (by decide) rfl ?_
  intro p e s m args below meth c s₁ B hml hv
  obtain ⟨rfl, hK, hP, hD0, hR, hRA⟩ := hv
  have C0 : Amb p s m ([.ref (qM 0), .int a1, .int a2] : List Value).toArray meth c cX7_putCell RX7 4 none G cA (adr ((wMd cA qM zM))) [] := ⟨B.exec, B.bytes, B.returns, hml, findClass_of_methodNamed B.named, fun w h => atoms_spec (ws := (.code yX7_putCell cX7_putCell 4 none :: wd)) B.pre w (List.mem_cons_of_mem _ h), B.notSynchronized, hK, hR, hRA⟩
  have hl := lv_entry ([.ref (qM 0), .int a1, .int a2]) (n := 4) (Nat.le_of_ble_eq_true rfl)
  rw [lg_entry_eq]
  generalize (lg_sl ([.ref (qM 0), .int a1, .int a2]) ++ List.replicate (4 - (lg_sl ([.ref (qM 0), .int a1, .int a2])).length) Slot.unset).toArray = ls at hl ⊢
  have hl : lv_has ls 4 [(0, .ref (qM 0)), (1, .int a1), (2, .int a2)] := hl
  exact b_X7_putCell_0 (W9 := ((wMd cA qM zM))) qM   C0 zM a1 a2 s.heap [] ls hP (adr.self hD0) va_S.rf hl hf
theorem cw_X7_putCell {R : Room} {s : State} {args : Array Value} {own : String} {index : Nat} (ht : ∀ w ∈ wd, w.before args s = true) (hlink : Cond.methodLink own index yX7_putCell ∈ wd) (hR : rm_X7_putCell.frames + 1 ≤ R.frames ∧ 8 + (4 + 11) + rm_X7_putCell.locals ≤ R.locals) : CallW R s args own RX7 index yX7_putCell cX7_putCell 4 none (.code yX7_putCell cX7_putCell 4 none :: wd) rm_X7_putCell 0 0 2 := cwV9 2 ht wi_722 wi_721 wi_28 wi_60 hlink (by decide +kernel) rfl rfl hR
def rm_X7_type : Room := { frames := 1, cells := 0, slots := 0, locals := 23 }
def f_X7_type_107 (zM : MdS) (x6 : Int32) (v1 : Int32) : Option (Int32 × MdS) := (f_X7_refused zM v1).bind fun r_1 => if r_1.1 = 0 then some ((gM_lineSize r_1.2), r_1.2) else some ((0 : Int32), (uM_lineSize r_1.2 x6))
set_option maxHeartbeats 4000000 in
set_option maxRecDepth 100000 in
theorem b_X7_type_107 {p : Program} {l : Launch} {e : Env} {s : State} {m : MethodId} {args : Array Value} {below : List Frame} {meth : Method} {c : Code} {G : va_G} {cA : Nat → ClassId} {W9 : va_W} (qM : Nat → Nat) (C0 : Amb p s m args meth c cX7_type RX7 10 (some .int) G cA (adr W9) []) {res : Int32 × MdS} : ∀ (zM : MdS) (x6 : Int32) (v1 : Int32) (H : Heap) (locs : List Loc) (ls : Array Slot), va_P G vwCl ((wMd cA qM zM)) H → va_D (adr W9) ((wMd cA qM zM)) → va_S (adr W9) s.heap H locs → lv_has ls 10 [(0, .ref (qM 0)), (6, .int x6)] → f_X7_type_107 zM x6 v1 = some res → W p l e rm_X7_type s m args below meth c H locs 0 0 (MQ below (qWi G W9 ((wMd cA qM res.2)) res.1) args s 0 0 (adr W9)) (F0 m 107 ls [.int v1, .ref (qM 0)]) := by
  obtain ⟨hx, hb, hr, hml, hown, hts, hlocks, hK, hR, hRA⟩ := id C0
  intro zM x6 v1 H locs ls hP hD hS hl hf
  unfold f_X7_type_107 at hf
  obtain ⟨r_1, hr_1, hf⟩ := obd hf
  refine cWiV (As := [.int v1]) (rest := []) (W1 := ((wMd cA qM r_1.2))) ⟨hx, hb, hml, hown, hts⟩ (m_X7_refused l G cA qM zM v1 r_1 hr_1) (cw_X7_refused hts wi_723 ⟨Nat.le_of_ble_eq_true rfl, Nat.le_of_ble_eq_true rfl⟩) hK hP hD hS [0, 1, 2, 3, 4] [5, 6, 7, 8, 9] rfl rfl rfl (by decide) rfl va_Pnil dj_nil (va_recv hK.1 hP (ci := 5) (q0 := 0) rfl rfl) rfl hl.1 rfl (Nat.le_of_ble_eq_true rfl) dX7_type_107 ⟨Nat.zero_le _, Nat.zero_le _⟩ (fun H locs hP hD hS => ?_)
  refine lv_if_eq (tgt := 121) hx hb dX7_type_110 (by decide) (fun c_2 => ?_) (fun c_2 => ?_)
  · rw [if_pos (c_2)] at hf
    refine lv_aload_n hx hb dX7_type_121 rfl (lv_at hl 0 rfl) ?_
    refine va_get (D := G) (ci := 5) (v := .int (gM_lineSize r_1.2)) (C := RX7) (T := TX7) (N := 13) hx hb hts fin_X7 hown hK.1 hP 0 rfl rfl 2 (by decide) (hts _ wi_673) (fun _ h9 => h9) rfl dX7_type_122 ?_
    cases hf
    exact W.iret hx hb hr (fun t ht hW => ⟨⟨_, (), rfl, rfl, toT ht hP⟩, hS.F ht⟩) hS.2.2 dX7_type_125 hlocks
  · rw [if_neg (c_2)] at hf
    refine lv_aload_n hx hb dX7_type_113 rfl (lv_at hl 0 rfl) ?_
    refine lv_iload hx hb dX7_type_114 (lv_at hl 1 rfl) ?_
    refine va_put (D := G) (ci := 5) (v := .int x6) (ty := .int) (C := RX7) (T := TX7) (N := 13) hx hb hts fin_X7 tyX7 tyX7_ok nmX7 hown hK.1 hP hD hS 0 rfl rfl 2 (by decide) (hts _ wi_673) (fun _ h9 => h9) rfl (by decide +kernel) rfl rfl (Nat.le_of_ble_eq_true rfl) dX7_type_116 (fun H locs hP hD hS => ?_)
    have hP := sM_lineSize_P hP
    have hD := sM_lineSize_D hD
    refine lv_iconst (v := 0) hx hb dX7_type_119 (by decide) ?_
    cases hf
    exact W.iret hx hb hr (fun t ht hW => ⟨⟨_, (), rfl, rfl, toT ht hP⟩, hS.F ht⟩) hS.2.2 dX7_type_120 hlocks
def f_X7_type_63 (kb_9 : MdS → Int32 → Int32 → Int32 → Int32 → Int32 → Int32 → Int32 → Option (Int32 × MdS)) : Nat → MdS → Int32 → Int32 → Int32 → Int32 → Int32 → Int32 → Int32 → Int32 → Int32 → Option (Int32 × MdS)
  | 0, _, _, _, _, _, _, _, _, _, _ => none
  | fu + 1, zM, x1, x2, x3, x4, x5, x6, x7, x8, x9 => if x9 < 0 then kb_9 zM x1 x2 x3 x4 x5 x6 (x7 + 1) else (f_X7_putCell zM x8 x9).bind fun r_2 => (some ((x9 - (8 : Int32)))).bind fun y_3 => f_X7_type_63 kb_9 fu r_2 x1 x2 x3 x4 x5 x6 x7 x8 y_3
set_option maxHeartbeats 4000000 in
set_option maxRecDepth 100000 in
theorem b_X7_type_63 {p : Program} {l : Launch} {e : Env} {s : State} {m : MethodId} {args : Array Value} {below : List Frame} {meth : Method} {c : Code} {G : va_G} {cA : Nat → ClassId} {W9 : va_W} (qM : Nat → Nat) (C0 : Amb p s m args meth c cX7_type RX7 10 (some .int) G cA (adr W9) []) {res : Int32 × MdS} (kb_9 : MdS → Int32 → Int32 → Int32 → Int32 → Int32 → Int32 → Int32 → Option (Int32 × MdS)) (hkb_9 : ∀ (zM : MdS) (x1 : Int32) (x2 : Int32) (x3 : Int32) (x4 : Int32) (x5 : Int32) (x6 : Int32) (x7 : Int32) (H : Heap) (locs : List Loc) (ls : Array Slot), va_P G vwCl ((wMd cA qM zM)) H → va_D (adr W9) ((wMd cA qM zM)) → va_S (adr W9) s.heap H locs → lv_has ls 10 [(0, .ref (qM 0)), (1, .int x1), (2, .int x2), (3, .int x3), (4, .int x4), (5, .int x5), (6, .int x6), (7, .int x7)] → kb_9 zM x1 x2 x3 x4 x5 x6 x7 = some res → W p l e rm_X7_type s m args below meth c H locs 0 0 (MQ below (qWi G W9 ((wMd cA qM res.2)) res.1) args s 0 0 (adr W9)) (F0 m 9 ls [])) : ∀ (fu : Nat) (zM : MdS) (x1 : Int32) (x2 : Int32) (x3 : Int32) (x4 : Int32) (x5 : Int32) (x6 : Int32) (x7 : Int32) (x8 : Int32) (x9 : Int32) (H : Heap) (locs : List Loc) (ls : Array Slot), va_P G vwCl ((wMd cA qM zM)) H → va_D (adr W9) ((wMd cA qM zM)) → va_S (adr W9) s.heap H locs → lv_has ls 10 [(0, .ref (qM 0)), (1, .int x1), (2, .int x2), (3, .int x3), (4, .int x4), (5, .int x5), (6, .int x6), (7, .int x7), (8, .int x8), (9, .int x9)] → f_X7_type_63 kb_9 fu zM x1 x2 x3 x4 x5 x6 x7 x8 x9 = some res → W p l e rm_X7_type s m args below meth c H locs 0 0 (MQ below (qWi G W9 ((wMd cA qM res.2)) res.1) args s 0 0 (adr W9)) (F0 m 63 ls []) := by
  obtain ⟨hx, hb, hr, hml, hown, hts, hlocks, hK, hR, hRA⟩ := id C0
  intro fu
  induction fu with
  | zero =>
    intro zM x1 x2 x3 x4 x5 x6 x7 x8 x9 H locs ls hP hD hS hl hf
    rw [f_X7_type_63] at hf
    cases hf
  | succ fu ih =>
    intro zM x1 x2 x3 x4 x5 x6 x7 x8 x9 H locs ls hP hD hS hl hf
    rw [f_X7_type_63] at hf
    refine lv_iload hx hb dX7_type_63 (lv_at hl 9 rfl) ?_
    refine lv_if_lt (tgt := 86) hx hb dX7_type_65 (by decide) (fun c_1 => ?_) (fun c_1 => ?_)
    · rw [if_pos (c_1)] at hf
      refine lv_iinc (v := (x7 + 1)) (lv' := [(7, .int (x7 + 1)), (0, .ref (qM 0)), (1, .int x1), (2, .int x2), (3, .int x3), (4, .int x4), (5, .int x5), (6, .int x6), (8, .int x8), (9, .int x9)]) hx hb dX7_type_86 hl (k := 7) rfl rfl (by decide) rfl (fun ls hl => ?_)
      refine lv_goto (tgt := 9) hx hb dX7_type_89 (by decide) ?_
      exact hkb_9 zM x1 x2 x3 x4 x5 x6 (x7 + 1) H locs ls hP hD hS (lv_sub hl [1, 2, 3, 4, 5, 6, 7, 0] rfl) hf
    · rw [if_neg (c_1)] at hf
      refine lv_aload_n hx hb dX7_type_68 rfl (lv_at hl 0 rfl) ?_
      refine lv_iload hx hb dX7_type_69 (lv_at hl 8 rfl) ?_
      refine lv_iload hx hb dX7_type_71 (lv_at hl 9 rfl) ?_
      obtain ⟨r_2, hr_2, hf⟩ := obd hf
      refine cWvV (As := [.int x8, .int x9]) (rest := []) (W1 := ((wMd cA qM r_2))) ⟨hx, hb, hml, hown, hts⟩ (m_X7_putCell l G cA qM zM x8 x9 r_2 hr_2) (cw_X7_putCell hts wi_719 ⟨Nat.le_of_ble_eq_true rfl, Nat.le_of_ble_eq_true rfl⟩) hK hP hD hS [0, 1, 2, 3, 4] [5, 6, 7, 8, 9] rfl rfl rfl (by decide) rfl va_Pnil dj_nil (va_recv hK.1 hP (ci := 5) (q0 := 0) rfl rfl) rfl hl.1 rfl (Nat.le_of_ble_eq_true rfl) dX7_type_73 ⟨Nat.zero_le _, Nat.zero_le _⟩ (fun H locs hP hD hS => ?_)
      refine lv_iload hx hb dX7_type_76 (lv_at hl 9 rfl) ?_
      refine lv_bipush (v := (8 : Int32)) hx hb dX7_type_78 (by decide) ?_
      refine lv_isub hx hb dX7_type_80 ?_
      obtain ⟨y_3, hq, hf⟩ := obd hf
      have hy_3 : (x9 - (8 : Int32)) = y_3 := Option.some.inj hq
      rw [hy_3]
      refine lv_istore (lv' := [(9, .int y_3), (0, .ref (qM 0)), (1, .int x1), (2, .int x2), (3, .int x3), (4, .int x4), (5, .int x5), (6, .int x6), (7, .int x7), (8, .int x8)]) hx hb dX7_type_81 hl (by decide) rfl (fun ls hl => ?_)
      refine lv_goto (tgt := 63) hx hb dX7_type_83 (by decide) ?_
      exact ih r_2 x1 x2 x3 x4 x5 x6 x7 x8 y_3 H locs ls hP hD hS (lv_sub hl [1, 2, 3, 4, 5, 6, 7, 8, 9, 0] rfl) hf
def f_X7_type_57 (kb_9 : MdS → Int32 → Int32 → Int32 → Int32 → Int32 → Int32 → Int32 → Option (Int32 × MdS)) (zM : MdS) (x1 : Int32) (x2 : Int32) (x3 : Int32) (x4 : Int32) (x5 : Int32) (x6 : Int32) (x7 : Int32) (v0 : Int32) : Option (Int32 × MdS) := f_X7_type_63 kb_9 fuel zM x1 x2 x3 x4 x5 x6 x7 v0 (24 : Int32)
set_option maxHeartbeats 4000000 in
set_option maxRecDepth 100000 in
theorem b_X7_type_57 {p : Program} {l : Launch} {e : Env} {s : State} {m : MethodId} {args : Array Value} {below : List Frame} {meth : Method} {c : Code} {G : va_G} {cA : Nat → ClassId} {W9 : va_W} (qM : Nat → Nat) (C0 : Amb p s m args meth c cX7_type RX7 10 (some .int) G cA (adr W9) []) {res : Int32 × MdS} (kb_9 : MdS → Int32 → Int32 → Int32 → Int32 → Int32 → Int32 → Int32 → Option (Int32 × MdS)) (hkb_9 : ∀ (zM : MdS) (x1 : Int32) (x2 : Int32) (x3 : Int32) (x4 : Int32) (x5 : Int32) (x6 : Int32) (x7 : Int32) (H : Heap) (locs : List Loc) (ls : Array Slot), va_P G vwCl ((wMd cA qM zM)) H → va_D (adr W9) ((wMd cA qM zM)) → va_S (adr W9) s.heap H locs → lv_has ls 10 [(0, .ref (qM 0)), (1, .int x1), (2, .int x2), (3, .int x3), (4, .int x4), (5, .int x5), (6, .int x6), (7, .int x7)] → kb_9 zM x1 x2 x3 x4 x5 x6 x7 = some res → W p l e rm_X7_type s m args below meth c H locs 0 0 (MQ below (qWi G W9 ((wMd cA qM res.2)) res.1) args s 0 0 (adr W9)) (F0 m 9 ls [])) : ∀ (zM : MdS) (x1 : Int32) (x2 : Int32) (x3 : Int32) (x4 : Int32) (x5 : Int32) (x6 : Int32) (x7 : Int32) (v0 : Int32) (H : Heap) (locs : List Loc) (ls : Array Slot), va_P G vwCl ((wMd cA qM zM)) H → va_D (adr W9) ((wMd cA qM zM)) → va_S (adr W9) s.heap H locs → lv_has ls 10 [(0, .ref (qM 0)), (1, .int x1), (2, .int x2), (3, .int x3), (4, .int x4), (5, .int x5), (6, .int x6), (7, .int x7)] → f_X7_type_57 kb_9 zM x1 x2 x3 x4 x5 x6 x7 v0 = some res → W p l e rm_X7_type s m args below meth c H locs 0 0 (MQ below (qWi G W9 ((wMd cA qM res.2)) res.1) args s 0 0 (adr W9)) (F0 m 57 ls [.int v0]) := by
  obtain ⟨hx, hb, hr, hml, hown, hts, hlocks, hK, hR, hRA⟩ := id C0
  intro zM x1 x2 x3 x4 x5 x6 x7 v0 H locs ls hP hD hS hl hf
  unfold f_X7_type_57 at hf
  refine lv_istore (lv' := [(8, .int v0), (0, .ref (qM 0)), (1, .int x1), (2, .int x2), (3, .int x3), (4, .int x4), (5, .int x5), (6, .int x6), (7, .int x7)]) hx hb dX7_type_57 hl (by decide) rfl (fun ls hl => ?_)
  refine lv_bipush (v := (24 : Int32)) hx hb dX7_type_59 (by decide) ?_
  refine lv_istore (lv' := [(9, .int (24 : Int32)), (8, .int v0), (0, .ref (qM 0)), (1, .int x1), (2, .int x2), (3, .int x3), (4, .int x4), (5, .int x5), (6, .int x6), (7, .int x7)]) hx hb dX7_type_61 hl (by decide) rfl (fun ls hl => ?_)
  exact b_X7_type_63 qM   C0 kb_9 hkb_9 fuel zM x1 x2 x3 x4 x5 x6 x7 v0 (24 : Int32) H locs ls hP hD hS (lv_sub hl [2, 3, 4, 5, 6, 7, 8, 9, 1, 0] rfl) hf
def f_X7_type_9  : Nat → MdS → Int32 → Int32 → Int32 → Int32 → Int32 → Int32 → Int32 → Option (Int32 × MdS)
  | 0, _, _, _, _, _, _, _, _ => none
  | fu + 1, zM, x1, x2, x3, x4, x5, x6, x7 => if (5 : Int32) ≤ x7 then if (gM_lineSize zM) ≤ (100 : Int32) then f_X7_type_107  zM x6 (0 : Int32) else f_X7_type_107  zM x6 (1 : Int32) else if ¬ x7 = 0 then if ¬ x7 = (1 : Int32) then if ¬ x7 = (2 : Int32) then if ¬ x7 = (3 : Int32) then f_X7_type_57 (fun zM_ x1_ x2_ x3_ x4_ x5_ x6_ x7_ => f_X7_type_9  fu zM_ x1_ x2_ x3_ x4_ x5_ x6_ x7_) zM x1 x2 x3 x4 x5 x6 x7 x5 else f_X7_type_57 (fun zM_ x1_ x2_ x3_ x4_ x5_ x6_ x7_ => f_X7_type_9  fu zM_ x1_ x2_ x3_ x4_ x5_ x6_ x7_) zM x1 x2 x3 x4 x5 x6 x7 x4 else f_X7_type_57 (fun zM_ x1_ x2_ x3_ x4_ x5_ x6_ x7_ => f_X7_type_9  fu zM_ x1_ x2_ x3_ x4_ x5_ x6_ x7_) zM x1 x2 x3 x4 x5 x6 x7 x3 else f_X7_type_57 (fun zM_ x1_ x2_ x3_ x4_ x5_ x6_ x7_ => f_X7_type_9  fu zM_ x1_ x2_ x3_ x4_ x5_ x6_ x7_) zM x1 x2 x3 x4 x5 x6 x7 x2 else f_X7_type_57 (fun zM_ x1_ x2_ x3_ x4_ x5_ x6_ x7_ => f_X7_type_9  fu zM_ x1_ x2_ x3_ x4_ x5_ x6_ x7_) zM x1 x2 x3 x4 x5 x6 x7 x1
set_option maxHeartbeats 4000000 in
set_option maxRecDepth 100000 in
theorem b_X7_type_9 {p : Program} {l : Launch} {e : Env} {s : State} {m : MethodId} {args : Array Value} {below : List Frame} {meth : Method} {c : Code} {G : va_G} {cA : Nat → ClassId} {W9 : va_W} (qM : Nat → Nat) (C0 : Amb p s m args meth c cX7_type RX7 10 (some .int) G cA (adr W9) []) {res : Int32 × MdS} : ∀ (fu : Nat) (zM : MdS) (x1 : Int32) (x2 : Int32) (x3 : Int32) (x4 : Int32) (x5 : Int32) (x6 : Int32) (x7 : Int32) (H : Heap) (locs : List Loc) (ls : Array Slot), va_P G vwCl ((wMd cA qM zM)) H → va_D (adr W9) ((wMd cA qM zM)) → va_S (adr W9) s.heap H locs → lv_has ls 10 [(0, .ref (qM 0)), (1, .int x1), (2, .int x2), (3, .int x3), (4, .int x4), (5, .int x5), (6, .int x6), (7, .int x7)] → f_X7_type_9 fu zM x1 x2 x3 x4 x5 x6 x7 = some res → W p l e rm_X7_type s m args below meth c H locs 0 0 (MQ below (qWi G W9 ((wMd cA qM res.2)) res.1) args s 0 0 (adr W9)) (F0 m 9 ls []) := by
  obtain ⟨hx, hb, hr, hml, hown, hts, hlocks, hK, hR, hRA⟩ := id C0
  intro fu
  induction fu with
  | zero =>
    intro zM x1 x2 x3 x4 x5 x6 x7 H locs ls hP hD hS hl hf
    rw [f_X7_type_9] at hf
    cases hf
  | succ fu ih =>
    intro zM x1 x2 x3 x4 x5 x6 x7 H locs ls hP hD hS hl hf
    rw [f_X7_type_9] at hf
    refine lv_iload hx hb dX7_type_9 (lv_at hl 7 rfl) ?_
    refine lv_iconst (v := 5) hx hb dX7_type_11 (by decide) ?_
    refine lv_icmp_ge (tgt := 92) hx hb dX7_type_12 (by decide) (fun c_1 => ?_) (fun c_1 => ?_)
    · rw [if_pos (c_1)] at hf
      refine lv_aload_n hx hb dX7_type_92 rfl (lv_at hl 0 rfl) ?_
      refine lv_aload_n hx hb dX7_type_93 rfl (lv_at hl 0 rfl) ?_
      refine va_get (D := G) (ci := 5) (v := .int (gM_lineSize zM)) (C := RX7) (T := TX7) (N := 13) hx hb hts fin_X7 hown hK.1 hP 0 rfl rfl 2 (by decide) (hts _ wi_673) (fun _ h9 => h9) rfl dX7_type_94 ?_
      refine lv_bipush (v := (100 : Int32)) hx hb dX7_type_97 (by decide) ?_
      refine lv_icmp_le (tgt := 106) hx hb dX7_type_99 (by decide) (fun c_2 => ?_) (fun c_2 => ?_)
      · rw [if_pos (c_2)] at hf
        refine lv_iconst (v := 0) hx hb dX7_type_106 (by decide) ?_
        exact b_X7_type_107 qM   C0  zM x6 (0 : Int32) H locs ls hP hD hS (lv_sub hl [0, 6] rfl) hf
      · rw [if_neg (c_2)] at hf
        refine lv_iconst (v := 1) hx hb dX7_type_102 (by decide) ?_
        refine lv_goto (tgt := 107) hx hb dX7_type_103 (by decide) ?_
        exact b_X7_type_107 qM   C0  zM x6 (1 : Int32) H locs ls hP hD hS (lv_sub hl [0, 6] rfl) hf
    · rw [if_neg (c_1)] at hf
      refine lv_iload hx hb dX7_type_15 (lv_at hl 7 rfl) ?_
      refine lv_if_ne (tgt := 24) hx hb dX7_type_17 (by decide) (fun c_3 => ?_) (fun c_3 => ?_)
      · rw [if_pos (c_3)] at hf
        refine lv_iload hx hb dX7_type_24 (lv_at hl 7 rfl) ?_
        refine lv_iconst (v := 1) hx hb dX7_type_26 (by decide) ?_
        refine lv_icmp_ne (tgt := 34) hx hb dX7_type_27 (by decide) (fun c_4 => ?_) (fun c_4 => ?_)
        · rw [if_pos (c_4)] at hf
          refine lv_iload hx hb dX7_type_34 (lv_at hl 7 rfl) ?_
          refine lv_iconst (v := 2) hx hb dX7_type_36 (by decide) ?_
          refine lv_icmp_ne (tgt := 44) hx hb dX7_type_37 (by decide) (fun c_5 => ?_) (fun c_5 => ?_)
          · rw [if_pos (c_5)] at hf
            refine lv_iload hx hb dX7_type_44 (lv_at hl 7 rfl) ?_
            refine lv_iconst (v := 3) hx hb dX7_type_46 (by decide) ?_
            refine lv_icmp_ne (tgt := 55) hx hb dX7_type_47 (by decide) (fun c_6 => ?_) (fun c_6 => ?_)
            · rw [if_pos (c_6)] at hf
              refine lv_iload hx hb dX7_type_55 (lv_at hl 5 rfl) ?_
              exact b_X7_type_57 qM   C0 (fun zM_ x1_ x2_ x3_ x4_ x5_ x6_ x7_ => f_X7_type_9  fu zM_ x1_ x2_ x3_ x4_ x5_ x6_ x7_) ih zM x1 x2 x3 x4 x5 x6 x7 x5 H locs ls hP hD hS (lv_sub hl [0, 1, 2, 3, 4, 5, 6, 7] rfl) hf
            · rw [if_neg (not_not_intro c_6)] at hf
              refine lv_iload hx hb dX7_type_50 (lv_at hl 4 rfl) ?_
              refine lv_goto (tgt := 57) hx hb dX7_type_52 (by decide) ?_
              exact b_X7_type_57 qM   C0 (fun zM_ x1_ x2_ x3_ x4_ x5_ x6_ x7_ => f_X7_type_9  fu zM_ x1_ x2_ x3_ x4_ x5_ x6_ x7_) ih zM x1 x2 x3 x4 x5 x6 x7 x4 H locs ls hP hD hS (lv_sub hl [0, 1, 2, 3, 4, 5, 6, 7] rfl) hf
          · rw [if_neg (not_not_intro c_5)] at hf
            refine lv_iload_n hx hb dX7_type_40 rfl (lv_at hl 3 rfl) ?_
            refine lv_goto (tgt := 57) hx hb dX7_type_41 (by decide) ?_
            exact b_X7_type_57 qM   C0 (fun zM_ x1_ x2_ x3_ x4_ x5_ x6_ x7_ => f_X7_type_9  fu zM_ x1_ x2_ x3_ x4_ x5_ x6_ x7_) ih zM x1 x2 x3 x4 x5 x6 x7 x3 H locs ls hP hD hS (lv_sub hl [0, 1, 2, 3, 4, 5, 6, 7] rfl) hf
        · rw [if_neg (not_not_intro c_4)] at hf
          refine lv_iload_n hx hb dX7_type_30 rfl (lv_at hl 2 rfl) ?_
          refine lv_goto (tgt := 57) hx hb dX7_type_31 (by decide) ?_
          exact b_X7_type_57 qM   C0 (fun zM_ x1_ x2_ x3_ x4_ x5_ x6_ x7_ => f_X7_type_9  fu zM_ x1_ x2_ x3_ x4_ x5_ x6_ x7_) ih zM x1 x2 x3 x4 x5 x6 x7 x2 H locs ls hP hD hS (lv_sub hl [0, 1, 2, 3, 4, 5, 6, 7] rfl) hf
      · rw [if_neg (not_not_intro c_3)] at hf
        refine lv_iload_n hx hb dX7_type_20 rfl (lv_at hl 1 rfl) ?_
        refine lv_goto (tgt := 57) hx hb dX7_type_21 (by decide) ?_
        exact b_X7_type_57 qM   C0 (fun zM_ x1_ x2_ x3_ x4_ x5_ x6_ x7_ => f_X7_type_9  fu zM_ x1_ x2_ x3_ x4_ x5_ x6_ x7_) ih zM x1 x2 x3 x4 x5 x6 x7 x1 H locs ls hP hD hS (lv_sub hl [0, 1, 2, 3, 4, 5, 6, 7] rfl) hf
def f_X7_type (zM : MdS) (a1 : Int32) (a2 : Int32) (a3 : Int32) (a4 : Int32) (a5 : Int32) : Option (Int32 × MdS) := (some ((gM_lineSize zM))).bind fun y_1 => f_X7_type_9 fuel zM a1 a2 a3 a4 a5 y_1 (0 : Int32)
set_option maxHeartbeats 4000000 in
set_option maxRecDepth 100000 in
theorem b_X7_type_0 {p : Program} {l : Launch} {e : Env} {s : State} {m : MethodId} {args : Array Value} {below : List Frame} {meth : Method} {c : Code} {G : va_G} {cA : Nat → ClassId} {W9 : va_W} (qM : Nat → Nat) (C0 : Amb p s m args meth c cX7_type RX7 10 (some .int) G cA (adr W9) []) {res : Int32 × MdS} : ∀ (zM : MdS) (a1 : Int32) (a2 : Int32) (a3 : Int32) (a4 : Int32) (a5 : Int32) (H : Heap) (locs : List Loc) (ls : Array Slot), va_P G vwCl ((wMd cA qM zM)) H → va_D (adr W9) ((wMd cA qM zM)) → va_S (adr W9) s.heap H locs → lv_has ls 10 [(0, .ref (qM 0)), (1, .int a1), (2, .int a2), (3, .int a3), (4, .int a4), (5, .int a5)] → f_X7_type zM a1 a2 a3 a4 a5 = some res → W p l e rm_X7_type s m args below meth c H locs 0 0 (MQ below (qWi G W9 ((wMd cA qM res.2)) res.1) args s 0 0 (adr W9)) (F0 m 0 ls []) := by
  obtain ⟨hx, hb, hr, hml, hown, hts, hlocks, hK, hR, hRA⟩ := id C0
  intro zM a1 a2 a3 a4 a5 H locs ls hP hD hS hl hf
  unfold f_X7_type at hf
  refine lv_aload_n hx hb dX7_type_0 rfl (lv_at hl 0 rfl) ?_
  refine va_get (D := G) (ci := 5) (v := .int (gM_lineSize zM)) (C := RX7) (T := TX7) (N := 13) hx hb hts fin_X7 hown hK.1 hP 0 rfl rfl 2 (by decide) (hts _ wi_673) (fun _ h9 => h9) rfl dX7_type_1 ?_
  obtain ⟨y_1, hq, hf⟩ := obd hf
  have hy_1 : (gM_lineSize zM) = y_1 := Option.some.inj hq
  rw [hy_1]
  refine lv_istore (lv' := [(6, .int y_1), (0, .ref (qM 0)), (1, .int a1), (2, .int a2), (3, .int a3), (4, .int a4), (5, .int a5)]) hx hb dX7_type_4 hl (by decide) rfl (fun ls hl => ?_)
  refine lv_iconst (v := 0) hx hb dX7_type_6 (by decide) ?_
  refine lv_istore (lv' := [(7, .int (0 : Int32)), (6, .int y_1), (0, .ref (qM 0)), (1, .int a1), (2, .int a2), (3, .int a3), (4, .int a4), (5, .int a5)]) hx hb dX7_type_7 hl (by decide) rfl (fun ls hl => ?_)
  exact b_X7_type_9 qM   C0  fuel zM a1 a2 a3 a4 a5 y_1 (0 : Int32) H locs ls hP hD hS (lv_sub hl [2, 3, 4, 5, 6, 7, 1, 0] rfl) hf

set_option maxRecDepth 100000 in
theorem m_X7_type (l : Launch) (G : va_G) (cA : Nat → ClassId) (qM : Nat → Nat) (zM : MdS) (a1 : Int32) (a2 : Int32) (a3 : Int32) (a4 : Int32) (a5 : Int32) (res : Int32 × MdS) (hf : f_X7_type zM a1 a2 a3 a4 a5 = some res) : MWi l yX7_type (.code yX7_type cX7_type 10 (some .int) :: wd) rm_X7_type G cA [.ref (qM 0), .int a1, .int a2, .int a3, .int a4, .int a5] ((wMd cA qM zM)) [] ((wMd cA qM res.2)) res.1 := by
  refine Met.ofW (cc := cX7_type) (maxL := 10) (ret := (some .int)) (by decide) rfl ?_
  intro p e s m args below meth c s₁ B hml hv
  obtain ⟨rfl, hK, hP, hD0, hR, hRA⟩ := hv
  have C0 : Amb p s m ([.ref (qM 0), .int a1, .int a2, .int a3, .int a4, .int a5] : List Value).toArray meth c cX7_type RX7 10 (some .int) G cA (adr ((wMd cA qM zM))) [] := ⟨B.exec, B.bytes, B.returns, hml, findClass_of_methodNamed B.named, fun w h => atoms_spec (ws := (.code yX7_type cX7_type 10 (some .int) :: wd)) B.pre w (List.mem_cons_of_mem _ h), B.notSynchronized, hK, hR, hRA⟩
  have hl := lv_entry ([.ref (qM 0), .int a1, .int a2, .int a3, .int a4, .int a5]) (n := 10) (Nat.le_of_ble_eq_true rfl)
  rw [lg_entry_eq]
  generalize (lg_sl ([.ref (qM 0), .int a1, .int a2, .int a3, .int a4, .int a5]) ++ List.replicate (10 - (lg_sl ([.ref (qM 0), .int a1, .int a2, .int a3, .int a4, .int a5])).length) Slot.unset).toArray = ls at hl ⊢
  have hl : lv_has ls 10 [(0, .ref (qM 0)), (1, .int a1), (2, .int a2), (3, .int a3), (4, .int a4), (5, .int a5)] := hl
  exact b_X7_type_0 (W9 := ((wMd cA qM zM))) qM   C0 zM a1 a2 a3 a4 a5 s.heap [] ls hP (adr.self hD0) va_S.rf hl hf
theorem cw_X7_type {R : Room} {s : State} {args : Array Value} {own : String} {index : Nat} (ht : ∀ w ∈ wd, w.before args s = true) (hlink : Cond.methodLink own index yX7_type ∈ wd) (hR : rm_X7_type.frames + 1 ≤ R.frames ∧ 8 + (10 + 11) + rm_X7_type.locals ≤ R.locals) : CallW R s args own RX7 index yX7_type cX7_type 10 (some .int) (.code yX7_type cX7_type 10 (some .int) :: wd) rm_X7_type 0 0 5 := cwV9 5 ht wi_718 wi_716 wi_717 wi_60 hlink (by decide +kernel) rfl rfl hR
def rm_X7_erase : Room := { frames := 0, cells := 0, slots := 0, locals := 0 }
def f_X7_erase (zM : MdS) : Option (Int32 × MdS) := (some ((gM_lineSize (uM_refusal zM (0 : Int32))))).bind fun y_1 => some (y_1, (uM_lineSize (uM_refusal zM (0 : Int32)) (0 : Int32)))
set_option maxHeartbeats 4000000 in
set_option maxRecDepth 100000 in
theorem b_X7_erase_0 {p : Program} {l : Launch} {e : Env} {s : State} {m : MethodId} {args : Array Value} {below : List Frame} {meth : Method} {c : Code} {G : va_G} {cA : Nat → ClassId} {W9 : va_W} (qM : Nat → Nat) (C0 : Amb p s m args meth c cX7_erase RX7 2 (some .int) G cA (adr W9) []) {res : Int32 × MdS} : ∀ (zM : MdS) (H : Heap) (locs : List Loc) (ls : Array Slot), va_P G vwCl ((wMd cA qM zM)) H → va_D (adr W9) ((wMd cA qM zM)) → va_S (adr W9) s.heap H locs → lv_has ls 2 [(0, .ref (qM 0))] → f_X7_erase zM = some res → W p l e rm_X7_erase s m args below meth c H locs 0 0 (MQ below (qWi G W9 ((wMd cA qM res.2)) res.1) args s 0 0 (adr W9)) (F0 m 0 ls []) := by
  obtain ⟨hx, hb, hr, hml, hown, hts, hlocks, hK, hR, hRA⟩ := id C0
  intro zM H locs ls hP hD hS hl hf
  unfold f_X7_erase at hf
  refine lv_aload_n hx hb dX7_erase_0 rfl (lv_at hl 0 rfl) ?_
  refine lv_iconst (v := 0) hx hb dX7_erase_1 (by decide) ?_
  refine va_put (D := G) (ci := 5) (v := .int (0 : Int32)) (ty := .int) (C := RX7) (T := TX7) (N := 13) hx hb hts fin_X7 tyX7 tyX7_ok nmX7 hown hK.1 hP hD hS 0 rfl rfl 0 (by decide) (hts _ wi_671) (fun _ h9 => h9) rfl (by decide +kernel) rfl rfl (Nat.le_of_ble_eq_true rfl) dX7_erase_2 (fun H locs hP hD hS => ?_)
  have hP := sM_refusal_P hP
  have hD := sM_refusal_D hD
  refine lv_aload_n hx hb dX7_erase_5 rfl (lv_at hl 0 rfl) ?_
  refine va_get (D := G) (ci := 5) (v := .int (gM_lineSize (uM_refusal zM (0 : Int32)))) (C := RX7) (T := TX7) (N := 13) hx hb hts fin_X7 hown hK.1 hP 0 rfl rfl 2 (by decide) (hts _ wi_673) (fun _ h9 => h9) rfl dX7_erase_6 ?_
  obtain ⟨y_1, hq, hf⟩ := obd hf
  have hy_1 : (gM_lineSize (uM_refusal zM (0 : Int32))) = y_1 := Option.some.inj hq
  rw [hy_1]
  refine lv_istore_n (lv' := [(1, .int y_1), (0, .ref (qM 0))]) hx hb dX7_erase_9 rfl hl (by decide) rfl (fun ls hl => ?_)
  refine lv_aload_n hx hb dX7_erase_10 rfl (lv_at hl 1 rfl) ?_
  refine lv_iconst (v := 0) hx hb dX7_erase_11 (by decide) ?_
  refine va_put (D := G) (ci := 5) (v := .int (0 : Int32)) (ty := .int) (C := RX7) (T := TX7) (N := 13) hx hb hts fin_X7 tyX7 tyX7_ok nmX7 hown hK.1 hP hD hS 0 rfl rfl 2 (by decide) (hts _ wi_673) (fun _ h9 => h9) rfl (by decide +kernel) rfl rfl (Nat.le_of_ble_eq_true rfl) dX7_erase_12 (fun H locs hP hD hS => ?_)
  have hP := sM_lineSize_P hP
  have hD := sM_lineSize_D hD
  refine lv_iload_n hx hb dX7_erase_15 rfl (lv_at hl 0 rfl) ?_
  cases hf
  exact W.iret hx hb hr (fun t ht hW => ⟨⟨_, (), rfl, rfl, toT ht hP⟩, hS.F ht⟩) hS.2.2 dX7_erase_16 hlocks

set_option maxRecDepth 100000 in
theorem m_X7_erase (l : Launch) (G : va_G) (cA : Nat → ClassId) (qM : Nat → Nat) (zM : MdS) (res : Int32 × MdS) (hf : f_X7_erase zM = some res) : MWi l yX7_erase (.code yX7_erase cX7_erase 2 (some .int) :: wd) rm_X7_erase G cA [.ref (qM 0)] ((wMd cA qM zM)) [] ((wMd cA qM res.2)) res.1 := by
  refine Met.ofW (cc := cX7_erase) (maxL := 2) (ret := (some .int)) (by decide) rfl ?_
  intro p e s m args below meth c s₁ B hml hv
  obtain ⟨rfl, hK, hP, hD0, hR, hRA⟩ := hv
  have C0 : Amb p s m ([.ref (qM 0)] : List Value).toArray meth c cX7_erase RX7 2 (some .int) G cA (adr ((wMd cA qM zM))) [] := ⟨B.exec, B.bytes, B.returns, hml, findClass_of_methodNamed B.named, fun w h => atoms_spec (ws := (.code yX7_erase cX7_erase 2 (some .int) :: wd)) B.pre w (List.mem_cons_of_mem _ h), B.notSynchronized, hK, hR, hRA⟩
  have hl := lv_entry ([.ref (qM 0)]) (n := 2) (Nat.le_of_ble_eq_true rfl)
  rw [lg_entry_eq]
  generalize (lg_sl ([.ref (qM 0)]) ++ List.replicate (2 - (lg_sl ([.ref (qM 0)])).length) Slot.unset).toArray = ls at hl ⊢
  have hl : lv_has ls 2 [(0, .ref (qM 0))] := hl
  exact b_X7_erase_0 (W9 := ((wMd cA qM zM))) qM   C0 zM s.heap [] ls hP (adr.self hD0) va_S.rf hl hf
theorem cw_X7_erase {R : Room} {s : State} {args : Array Value} {own : String} {index : Nat} (ht : ∀ w ∈ wd, w.before args s = true) (hlink : Cond.methodLink own index yX7_erase ∈ wd) (hR : rm_X7_erase.frames + 1 ≤ R.frames ∧ 8 + (2 + 11) + rm_X7_erase.locals ≤ R.locals) : CallW R s args own RX7 index yX7_erase cX7_erase 2 (some .int) (.code yX7_erase cX7_erase 2 (some .int) :: wd) rm_X7_erase 0 0 0 := cwV9 0 ht wi_730 wi_728 wi_729 wi_60 hlink (by decide +kernel) rfl rfl hR
def rm_X7_next : Room := { frames := 0, cells := 0, slots := 0, locals := 0 }
def f_X7_next_38 (zM : MdS) : Option (Int32 × MdS) := if (gM_lineSize zM) ≤ (gM_at zM) then if cb (0 : Int32) = true then some ((0 : Int32), zM) else none else if inb (gM_at zM) 100 = true then if cb (gM_line zM (gM_at zM).toNatClampNeg) = true then some ((gM_line zM (gM_at zM).toNatClampNeg), zM) else none else none
set_option maxHeartbeats 4000000 in
set_option maxRecDepth 100000 in
theorem b_X7_next_38 {p : Program} {l : Launch} {e : Env} {s : State} {m : MethodId} {args : Array Value} {below : List Frame} {meth : Method} {c : Code} {G : va_G} {cA : Nat → ClassId} {W9 : va_W} (qM : Nat → Nat) (C0 : Amb p s m args meth c cX7_next RX7 1 (some .char) G cA (adr W9) []) {res : Int32 × MdS} : ∀ (zM : MdS) (H : Heap) (locs : List Loc) (ls : Array Slot), va_P G vwCl ((wMd cA qM zM)) H → va_D (adr W9) ((wMd cA qM zM)) → va_S (adr W9) s.heap H locs → lv_has ls 1 [(0, .ref (qM 0))] → f_X7_next_38 zM = some res → W p l e rm_X7_next s m args below meth c H locs 0 0 (MQ below (qWi G W9 ((wMd cA qM res.2)) res.1) args s 0 0 (adr W9)) (F0 m 38 ls []) := by
  obtain ⟨hx, hb, hr, hml, hown, hts, hlocks, hK, hR, hRA⟩ := id C0
  intro zM H locs ls hP hD hS hl hf
  unfold f_X7_next_38 at hf
  refine lv_aload_n hx hb dX7_next_38 rfl (lv_at hl 0 rfl) ?_
  refine va_get (D := G) (ci := 5) (v := .int (gM_at zM)) (C := RX7) (T := TX7) (N := 13) hx hb hts fin_X7 hown hK.1 hP 0 rfl rfl 9 (by decide) (hts _ wi_680) (fun _ h9 => h9) rfl dX7_next_39 ?_
  refine lv_aload_n hx hb dX7_next_42 rfl (lv_at hl 0 rfl) ?_
  refine va_get (D := G) (ci := 5) (v := .int (gM_lineSize zM)) (C := RX7) (T := TX7) (N := 13) hx hb hts fin_X7 hown hK.1 hP 0 rfl rfl 2 (by decide) (hts _ wi_673) (fun _ h9 => h9) rfl dX7_next_43 ?_
  refine lv_icmp_ge (tgt := 61) hx hb dX7_next_46 (by decide) (fun c_1 => ?_) (fun c_1 => ?_)
  · rw [if_pos (c_1)] at hf
    refine lv_iconst (v := 0) hx hb dX7_next_61 (by decide) ?_
    obtain ⟨hz_2, hf⟩ := oif hf
    cases hf
    exact W.zret hx hb hr (cb_n hz_2) (fun t ht hW => ⟨⟨_, (), rfl, rfl, toT ht hP⟩, hS.F ht⟩) hS.2.2 dX7_next_62 hlocks
  · rw [if_neg (c_1)] at hf
    refine lv_aload_n hx hb dX7_next_49 rfl (lv_at hl 0 rfl) ?_
    refine va_get (D := G) (ci := 5) (v := .ref (qM 1)) (C := RX7) (T := TX7) (N := 13) hx hb hts fin_X7 hown hK.1 hP 0 rfl rfl 1 (by decide) (hts _ wi_672) (fun _ h9 => h9) rfl dX7_next_50 ?_
    refine lv_aload_n hx hb dX7_next_53 rfl (lv_at hl 0 rfl) ?_
    refine va_get (D := G) (ci := 5) (v := .int (gM_at zM)) (C := RX7) (T := TX7) (N := 13) hx hb hts fin_X7 hown hK.1 hP 0 rfl rfl 9 (by decide) (hts _ wi_680) (fun _ h9 => h9) rfl dX7_next_54 ?_
    obtain ⟨hi_3, hf⟩ := oif hf
    refine va_cald hx hb hK.1 hP 1 2 rfl rfl (inb_in hi_3) dX7_next_57 ?_
    refine lv_goto (tgt := 62) hx hb dX7_next_58 (by decide) ?_
    obtain ⟨hz_4, hf⟩ := oif hf
    cases hf
    exact W.zret hx hb hr (cb_n hz_4) (fun t ht hW => ⟨⟨_, (), rfl, rfl, toT ht hP⟩, hS.F ht⟩) hS.2.2 dX7_next_62 hlocks
def f_X7_next_0  : Nat → MdS → Option (Int32 × MdS)
  | 0, _ => none
  | fu + 1, zM => if (gM_lineSize zM) ≤ (gM_at zM) then f_X7_next_38  zM else if inb (gM_at zM) 100 = true then if ¬ (gM_line zM (gM_at zM).toNatClampNeg) = (32 : Int32) then f_X7_next_38  zM else f_X7_next_0  fu (uM_at zM ((gM_at zM) + (1 : Int32))) else none
set_option maxHeartbeats 4000000 in
set_option maxRecDepth 100000 in
theorem b_X7_next_0 {p : Program} {l : Launch} {e : Env} {s : State} {m : MethodId} {args : Array Value} {below : List Frame} {meth : Method} {c : Code} {G : va_G} {cA : Nat → ClassId} {W9 : va_W} (qM : Nat → Nat) (C0 : Amb p s m args meth c cX7_next RX7 1 (some .char) G cA (adr W9) []) {res : Int32 × MdS} : ∀ (fu : Nat) (zM : MdS) (H : Heap) (locs : List Loc) (ls : Array Slot), va_P G vwCl ((wMd cA qM zM)) H → va_D (adr W9) ((wMd cA qM zM)) → va_S (adr W9) s.heap H locs → lv_has ls 1 [(0, .ref (qM 0))] → f_X7_next_0 fu zM = some res → W p l e rm_X7_next s m args below meth c H locs 0 0 (MQ below (qWi G W9 ((wMd cA qM res.2)) res.1) args s 0 0 (adr W9)) (F0 m 0 ls []) := by
  obtain ⟨hx, hb, hr, hml, hown, hts, hlocks, hK, hR, hRA⟩ := id C0
  intro fu
  induction fu with
  | zero =>
    intro zM H locs ls hP hD hS hl hf
    rw [f_X7_next_0] at hf
    cases hf
  | succ fu ih =>
    intro zM H locs ls hP hD hS hl hf
    rw [f_X7_next_0] at hf
    refine lv_aload_n hx hb dX7_next_0 rfl (lv_at hl 0 rfl) ?_
    refine va_get (D := G) (ci := 5) (v := .int (gM_at zM)) (C := RX7) (T := TX7) (N := 13) hx hb hts fin_X7 hown hK.1 hP 0 rfl rfl 9 (by decide) (hts _ wi_680) (fun _ h9 => h9) rfl dX7_next_1 ?_
    refine lv_aload_n hx hb dX7_next_4 rfl (lv_at hl 0 rfl) ?_
    refine va_get (D := G) (ci := 5) (v := .int (gM_lineSize zM)) (C := RX7) (T := TX7) (N := 13) hx hb hts fin_X7 hown hK.1 hP 0 rfl rfl 2 (by decide) (hts _ wi_673) (fun _ h9 => h9) rfl dX7_next_5 ?_
    refine lv_icmp_ge (tgt := 38) hx hb dX7_next_8 (by decide) (fun c_1 => ?_) (fun c_1 => ?_)
    · rw [if_pos (c_1)] at hf
      exact b_X7_next_38 qM   C0  zM H locs ls hP hD hS (lv_sub hl [0] rfl) hf
    · rw [if_neg (c_1)] at hf
      refine lv_aload_n hx hb dX7_next_11 rfl (lv_at hl 0 rfl) ?_
      refine va_get (D := G) (ci := 5) (v := .ref (qM 1)) (C := RX7) (T := TX7) (N := 13) hx hb hts fin_X7 hown hK.1 hP 0 rfl rfl 1 (by decide) (hts _ wi_672) (fun _ h9 => h9) rfl dX7_next_12 ?_
      refine lv_aload_n hx hb dX7_next_15 rfl (lv_at hl 0 rfl) ?_
      refine va_get (D := G) (ci := 5) (v := .int (gM_at zM)) (C := RX7) (T := TX7) (N := 13) hx hb hts fin_X7 hown hK.1 hP 0 rfl rfl 9 (by decide) (hts _ wi_680) (fun _ h9 => h9) rfl dX7_next_16 ?_
      obtain ⟨hi_2, hf⟩ := oif hf
      refine va_cald hx hb hK.1 hP 1 2 rfl rfl (inb_in hi_2) dX7_next_19 ?_
      refine lv_bipush (v := (32 : Int32)) hx hb dX7_next_20 (by decide) ?_
      refine lv_icmp_ne (tgt := 38) hx hb dX7_next_22 (by decide) (fun c_3 => ?_) (fun c_3 => ?_)
      · rw [if_pos (c_3)] at hf
        exact b_X7_next_38 qM   C0  zM H locs ls hP hD hS (lv_sub hl [0] rfl) hf
      · rw [if_neg (not_not_intro c_3)] at hf
        refine lv_aload_n hx hb dX7_next_25 rfl (lv_at hl 0 rfl) ?_
        refine lv_dup hx hb dX7_next_26 rfl ?_
        refine va_get (D := G) (ci := 5) (v := .int (gM_at zM)) (C := RX7) (T := TX7) (N := 13) hx hb hts fin_X7 hown hK.1 hP 0 rfl rfl 9 (by decide) (hts _ wi_680) (fun _ h9 => h9) rfl dX7_next_27 ?_
        refine lv_iconst (v := 1) hx hb dX7_next_30 (by decide) ?_
        refine lv_iadd hx hb dX7_next_31 ?_
        refine va_put (D := G) (ci := 5) (v := .int ((gM_at zM) + (1 : Int32))) (ty := .int) (C := RX7) (T := TX7) (N := 13) hx hb hts fin_X7 tyX7 tyX7_ok nmX7 hown hK.1 hP hD hS 0 rfl rfl 9 (by decide) (hts _ wi_680) (fun _ h9 => h9) rfl (by decide +kernel) rfl rfl (Nat.le_of_ble_eq_true rfl) dX7_next_32 (fun H locs hP hD hS => ?_)
        have hP := sM_at_P hP
        have hD := sM_at_D hD
        refine lv_goto (tgt := 0) hx hb dX7_next_35 (by decide) ?_
        exact ih (uM_at zM ((gM_at zM) + (1 : Int32))) H locs ls hP hD hS (lv_sub hl [0] rfl) hf

def f_X7_next (zM : MdS) : Option (Int32 × MdS) := f_X7_next_0 fuel zM
set_option maxRecDepth 100000 in
theorem m_X7_next (l : Launch) (G : va_G) (cA : Nat → ClassId) (qM : Nat → Nat) (zM : MdS) (res : Int32 × MdS) (hf : f_X7_next zM = some res) : MWi l yX7_next (.code yX7_next cX7_next 1 (some .char) :: wd) rm_X7_next G cA [.ref (qM 0)] ((wMd cA qM zM)) [] ((wMd cA qM res.2)) res.1 := by
  refine Met.ofW (cc := cX7_next) (maxL := 1) (ret := (some .char)) (by decide) rfl ?_
  intro p e s m args below meth c s₁ B hml hv
  obtain ⟨rfl, hK, hP, hD0, hR, hRA⟩ := hv
  have C0 : Amb p s m ([.ref (qM 0)] : List Value).toArray meth c cX7_next RX7 1 (some .char) G cA (adr ((wMd cA qM zM))) [] := ⟨B.exec, B.bytes, B.returns, hml, findClass_of_methodNamed B.named, fun w h => atoms_spec (ws := (.code yX7_next cX7_next 1 (some .char) :: wd)) B.pre w (List.mem_cons_of_mem _ h), B.notSynchronized, hK, hR, hRA⟩
  have hl := lv_entry ([.ref (qM 0)]) (n := 1) (Nat.le_of_ble_eq_true rfl)
  rw [lg_entry_eq]
  generalize (lg_sl ([.ref (qM 0)]) ++ List.replicate (1 - (lg_sl ([.ref (qM 0)])).length) Slot.unset).toArray = ls at hl ⊢
  have hl : lv_has ls 1 [(0, .ref (qM 0))] := hl
  unfold f_X7_next at hf
  exact b_X7_next_0 (W9 := ((wMd cA qM zM))) qM   C0 fuel zM s.heap [] ls hP (adr.self hD0) va_S.rf hl hf
theorem cw_X7_next {R : Room} {s : State} {args : Array Value} {own : String} {index : Nat} (ht : ∀ w ∈ wd, w.before args s = true) (hlink : Cond.methodLink own index yX7_next ∈ wd) (hR : rm_X7_next.frames + 1 ≤ R.frames ∧ 8 + (1 + 11) + rm_X7_next.locals ≤ R.locals) : CallW R s args own RX7 index yX7_next cX7_next 1 (some .char) (.code yX7_next cX7_next 1 (some .char) :: wd) rm_X7_next 0 0 0 := cwV9 0 ht wi_749 wi_748 wi_32 wi_60 hlink (by decide +kernel) rfl rfl hR
def rm_X7_wrong : Room := { frames := 0, cells := 0, slots := 0, locals := 0 }
def f_X7_wrong (zM : MdS) (a1 : Int32) (a2 : Int32) : Option (MdS) := if ¬ (gM_fault zM) = 0 then some zM else some (uM_wrongPlace (uM_fault zM a1) a2)
set_option maxHeartbeats 4000000 in
set_option maxRecDepth 100000 in
theorem b_X7_wrong_0 {p : Program} {l : Launch} {e : Env} {s : State} {m : MethodId} {args : Array Value} {below : List Frame} {meth : Method} {c : Code} {G : va_G} {cA : Nat → ClassId} {W9 : va_W} (qM : Nat → Nat) (C0 : Amb p s m args meth c cX7_wrong RX7 3 none G cA (adr W9) []) {res : MdS} : ∀ (zM : MdS) (a1 : Int32) (a2 : Int32) (H : Heap) (locs : List Loc) (ls : Array Slot), va_P G vwCl ((wMd cA qM zM)) H → va_D (adr W9) ((wMd cA qM zM)) → va_S (adr W9) s.heap H locs → lv_has ls 3 [(0, .ref (qM 0)), (1, .int a1), (2, .int a2)] → f_X7_wrong zM a1 a2 = some res → W p l e rm_X7_wrong s m args below meth c H locs 0 0 (MQ below (qWv G W9 ((wMd cA qM res))) args s 0 0 (adr W9)) (F0 m 0 ls []) := by
  obtain ⟨hx, hb, hr, hml, hown, hts, hlocks, hK, hR, hRA⟩ := id C0
  intro zM a1 a2 H locs ls hP hD hS hl hf
  unfold f_X7_wrong at hf
  refine lv_aload_n hx hb dX7_wrong_0 rfl (lv_at hl 0 rfl) ?_
  refine va_get (D := G) (ci := 5) (v := .int (gM_fault zM)) (C := RX7) (T := TX7) (N := 13) hx hb hts fin_X7 hown hK.1 hP 0 rfl rfl 10 (by decide) (hts _ wi_681) (fun _ h9 => h9) rfl dX7_wrong_1 ?_
  refine lv_if_ne (tgt := 17) hx hb dX7_wrong_4 (by decide) (fun c_1 => ?_) (fun c_1 => ?_)
  · rw [if_pos (c_1)] at hf
    cases hf
    exact W.vret hx hb hr (fun t ht hW => ⟨⟨(), rfl, trivial, toT ht hP⟩, hS.F ht⟩) hS.2.2 dX7_wrong_17 hlocks
  · rw [if_neg (not_not_intro c_1)] at hf
    refine lv_aload_n hx hb dX7_wrong_7 rfl (lv_at hl 0 rfl) ?_
    refine lv_iload_n hx hb dX7_wrong_8 rfl (lv_at hl 1 rfl) ?_
    refine va_put (D := G) (ci := 5) (v := .int a1) (ty := .int) (C := RX7) (T := TX7) (N := 13) hx hb hts fin_X7 tyX7 tyX7_ok nmX7 hown hK.1 hP hD hS 0 rfl rfl 10 (by decide) (hts _ wi_681) (fun _ h9 => h9) rfl (by decide +kernel) rfl rfl (Nat.le_of_ble_eq_true rfl) dX7_wrong_9 (fun H locs hP hD hS => ?_)
    have hP := sM_fault_P hP
    have hD := sM_fault_D hD
    refine lv_aload_n hx hb dX7_wrong_12 rfl (lv_at hl 0 rfl) ?_
    refine lv_iload_n hx hb dX7_wrong_13 rfl (lv_at hl 2 rfl) ?_
    refine va_put (D := G) (ci := 5) (v := .int a2) (ty := .int) (C := RX7) (T := TX7) (N := 13) hx hb hts fin_X7 tyX7 tyX7_ok nmX7 hown hK.1 hP hD hS 0 rfl rfl 5 (by decide) (hts _ wi_676) (fun _ h9 => h9) rfl (by decide +kernel) rfl rfl (Nat.le_of_ble_eq_true rfl) dX7_wrong_14 (fun H locs hP hD hS => ?_)
    have hP := sM_wrongPlace_P hP
    have hD := sM_wrongPlace_D hD
    cases hf
    exact W.vret hx hb hr (fun t ht hW => ⟨⟨(), rfl, trivial, toT ht hP⟩, hS.F ht⟩) hS.2.2 dX7_wrong_17 hlocks

set_option maxRecDepth 100000 in
theorem m_X7_wrong (l : Launch) (G : va_G) (cA : Nat → ClassId) (qM : Nat → Nat) (zM : MdS) (a1 : Int32) (a2 : Int32) (res : MdS) (hf : f_X7_wrong zM a1 a2 = some res) : MWv l yX7_wrong (.code yX7_wrong cX7_wrong 3 none :: wd) rm_X7_wrong G cA [.ref (qM 0), .int a1, .int a2] ((wMd cA qM zM)) [] ((wMd cA qM res)) := by
  refine Met.ofW (cc := cX7_wrong) (maxL := 3) (ret := none) (by decide) rfl ?_
  intro p e s m args below meth c s₁ B hml hv
  obtain ⟨rfl, hK, hP, hD0, hR, hRA⟩ := hv
  have C0 : Amb p s m ([.ref (qM 0), .int a1, .int a2] : List Value).toArray meth c cX7_wrong RX7 3 none G cA (adr ((wMd cA qM zM))) [] := ⟨B.exec, B.bytes, B.returns, hml, findClass_of_methodNamed B.named, fun w h => atoms_spec (ws := (.code yX7_wrong cX7_wrong 3 none :: wd)) B.pre w (List.mem_cons_of_mem _ h), B.notSynchronized, hK, hR, hRA⟩
  have hl := lv_entry ([.ref (qM 0), .int a1, .int a2]) (n := 3) (Nat.le_of_ble_eq_true rfl)
  rw [lg_entry_eq]
  generalize (lg_sl ([.ref (qM 0), .int a1, .int a2]) ++ List.replicate (3 - (lg_sl ([.ref (qM 0), .int a1, .int a2])).length) Slot.unset).toArray = ls at hl ⊢
  have hl : lv_has ls 3 [(0, .ref (qM 0)), (1, .int a1), (2, .int a2)] := hl
  exact b_X7_wrong_0 (W9 := ((wMd cA qM zM))) qM   C0 zM a1 a2 s.heap [] ls hP (adr.self hD0) va_S.rf hl hf
theorem cw_X7_wrong {R : Room} {s : State} {args : Array Value} {own : String} {index : Nat} (ht : ∀ w ∈ wd, w.before args s = true) (hlink : Cond.methodLink own index yX7_wrong ∈ wd) (hR : rm_X7_wrong.frames + 1 ≤ R.frames ∧ 8 + (3 + 11) + rm_X7_wrong.locals ≤ R.locals) : CallW R s args own RX7 index yX7_wrong cX7_wrong 3 none (.code yX7_wrong cX7_wrong 3 none :: wd) rm_X7_wrong 0 0 2 := cwV9 2 ht wi_764 wi_763 wi_35 wi_60 hlink (by decide +kernel) rfl rfl hR
def rm_X7_takes : Room := { frames := 1, cells := 0, slots := 0, locals := 20 }
def f_X7_takes (zM : MdS) (a1 : Int32) : Option (Int32 × MdS) := if ¬ (gM_fault zM) = 0 then some ((0 : Int32), zM) else (f_X7_next zM).bind fun r_2 => if r_2.1 = a1 then some ((1 : Int32), (uM_at r_2.2 ((gM_at r_2.2) + (1 : Int32)))) else some ((0 : Int32), r_2.2)
set_option maxHeartbeats 4000000 in
set_option maxRecDepth 100000 in
theorem b_X7_takes_0 {p : Program} {l : Launch} {e : Env} {s : State} {m : MethodId} {args : Array Value} {below : List Frame} {meth : Method} {c : Code} {G : va_G} {cA : Nat → ClassId} {W9 : va_W} (qM : Nat → Nat) (C0 : Amb p s m args meth c cX7_takes RX7 2 (some .boolean) G cA (adr W9) []) {res : Int32 × MdS} : ∀ (zM : MdS) (a1 : Int32) (H : Heap) (locs : List Loc) (ls : Array Slot), va_P G vwCl ((wMd cA qM zM)) H → va_D (adr W9) ((wMd cA qM zM)) → va_S (adr W9) s.heap H locs → lv_has ls 2 [(0, .ref (qM 0)), (1, .int a1)] → f_X7_takes zM a1 = some res → W p l e rm_X7_takes s m args below meth c H locs 0 0 (MQ below (qWi G W9 ((wMd cA qM res.2)) res.1) args s 0 0 (adr W9)) (F0 m 0 ls []) := by
  obtain ⟨hx, hb, hr, hml, hown, hts, hlocks, hK, hR, hRA⟩ := id C0
  intro zM a1 H locs ls hP hD hS hl hf
  unfold f_X7_takes at hf
  refine lv_aload_n hx hb dX7_takes_0 rfl (lv_at hl 0 rfl) ?_
  refine va_get (D := G) (ci := 5) (v := .int (gM_fault zM)) (C := RX7) (T := TX7) (N := 13) hx hb hts fin_X7 hown hK.1 hP 0 rfl rfl 10 (by decide) (hts _ wi_681) (fun _ h9 => h9) rfl dX7_takes_1 ?_
  refine lv_if_ne (tgt := 15) hx hb dX7_takes_4 (by decide) (fun c_1 => ?_) (fun c_1 => ?_)
  · rw [if_pos (c_1)] at hf
    refine lv_iconst (v := 0) hx hb dX7_takes_15 (by decide) ?_
    cases hf
    exact W.zret hx hb hr (by decide) (fun t ht hW => ⟨⟨_, (), rfl, rfl, toT ht hP⟩, hS.F ht⟩) hS.2.2 dX7_takes_16 hlocks
  · rw [if_neg (not_not_intro c_1)] at hf
    refine lv_aload_n hx hb dX7_takes_7 rfl (lv_at hl 0 rfl) ?_
    obtain ⟨r_2, hr_2, hf⟩ := obd hf
    refine cWiV (As := []) (rest := []) (W1 := ((wMd cA qM r_2.2))) ⟨hx, hb, hml, hown, hts⟩ (m_X7_next l G cA qM zM r_2 hr_2) (cw_X7_next hts wi_746 ⟨Nat.le_of_ble_eq_true rfl, Nat.le_of_ble_eq_true rfl⟩) hK hP hD hS [0, 1, 2, 3, 4] [5, 6, 7, 8, 9] rfl rfl rfl (by decide) rfl va_Pnil dj_nil (va_recv hK.1 hP (ci := 5) (q0 := 0) rfl rfl) rfl hl.1 rfl (Nat.le_of_ble_eq_true rfl) dX7_takes_8 ⟨Nat.zero_le _, Nat.zero_le _⟩ (fun H locs hP hD hS => ?_)
    refine lv_iload_n hx hb dX7_takes_11 rfl (lv_at hl 1 rfl) ?_
    refine lv_icmp_eq (tgt := 17) hx hb dX7_takes_12 (by decide) (fun c_3 => ?_) (fun c_3 => ?_)
    · rw [if_pos (c_3)] at hf
      refine lv_aload_n hx hb dX7_takes_17 rfl (lv_at hl 0 rfl) ?_
      refine lv_dup hx hb dX7_takes_18 rfl ?_
      refine va_get (D := G) (ci := 5) (v := .int (gM_at r_2.2)) (C := RX7) (T := TX7) (N := 13) hx hb hts fin_X7 hown hK.1 hP 0 rfl rfl 9 (by decide) (hts _ wi_680) (fun _ h9 => h9) rfl dX7_takes_19 ?_
      refine lv_iconst (v := 1) hx hb dX7_takes_22 (by decide) ?_
      refine lv_iadd hx hb dX7_takes_23 ?_
      refine va_put (D := G) (ci := 5) (v := .int ((gM_at r_2.2) + (1 : Int32))) (ty := .int) (C := RX7) (T := TX7) (N := 13) hx hb hts fin_X7 tyX7 tyX7_ok nmX7 hown hK.1 hP hD hS 0 rfl rfl 9 (by decide) (hts _ wi_680) (fun _ h9 => h9) rfl (by decide +kernel) rfl rfl (Nat.le_of_ble_eq_true rfl) dX7_takes_24 (fun H locs hP hD hS => ?_)
      have hP := sM_at_P hP
      have hD := sM_at_D hD
      refine lv_iconst (v := 1) hx hb dX7_takes_27 (by decide) ?_
      cases hf
      exact W.zret hx hb hr (by decide) (fun t ht hW => ⟨⟨_, (), rfl, rfl, toT ht hP⟩, hS.F ht⟩) hS.2.2 dX7_takes_28 hlocks
    · rw [if_neg (c_3)] at hf
      refine lv_iconst (v := 0) hx hb dX7_takes_15 (by decide) ?_
      cases hf
      exact W.zret hx hb hr (by decide) (fun t ht hW => ⟨⟨_, (), rfl, rfl, toT ht hP⟩, hS.F ht⟩) hS.2.2 dX7_takes_16 hlocks

set_option maxRecDepth 100000 in
theorem m_X7_takes (l : Launch) (G : va_G) (cA : Nat → ClassId) (qM : Nat → Nat) (zM : MdS) (a1 : Int32) (res : Int32 × MdS) (hf : f_X7_takes zM a1 = some res) : MWi l yX7_takes (.code yX7_takes cX7_takes 2 (some .boolean) :: wd) rm_X7_takes G cA [.ref (qM 0), .int a1] ((wMd cA qM zM)) [] ((wMd cA qM res.2)) res.1 := by
  refine Met.ofW (cc := cX7_takes) (maxL := 2) (ret := (some .boolean)) (by decide) rfl ?_
  intro p e s m args below meth c s₁ B hml hv
  obtain ⟨rfl, hK, hP, hD0, hR, hRA⟩ := hv
  have C0 : Amb p s m ([.ref (qM 0), .int a1] : List Value).toArray meth c cX7_takes RX7 2 (some .boolean) G cA (adr ((wMd cA qM zM))) [] := ⟨B.exec, B.bytes, B.returns, hml, findClass_of_methodNamed B.named, fun w h => atoms_spec (ws := (.code yX7_takes cX7_takes 2 (some .boolean) :: wd)) B.pre w (List.mem_cons_of_mem _ h), B.notSynchronized, hK, hR, hRA⟩
  have hl := lv_entry ([.ref (qM 0), .int a1]) (n := 2) (Nat.le_of_ble_eq_true rfl)
  rw [lg_entry_eq]
  generalize (lg_sl ([.ref (qM 0), .int a1]) ++ List.replicate (2 - (lg_sl ([.ref (qM 0), .int a1])).length) Slot.unset).toArray = ls at hl ⊢
  have hl : lv_has ls 2 [(0, .ref (qM 0)), (1, .int a1)] := hl
  exact b_X7_takes_0 (W9 := ((wMd cA qM zM))) qM   C0 zM a1 s.heap [] ls hP (adr.self hD0) va_S.rf hl hf
theorem cw_X7_takes {R : Room} {s : State} {args : Array Value} {own : String} {index : Nat} (ht : ∀ w ∈ wd, w.before args s = true) (hlink : Cond.methodLink own index yX7_takes ∈ wd) (hR : rm_X7_takes.frames + 1 ≤ R.frames ∧ 8 + (2 + 11) + rm_X7_takes.locals ≤ R.locals) : CallW R s args own RX7 index yX7_takes cX7_takes 2 (some .boolean) (.code yX7_takes cX7_takes 2 (some .boolean) :: wd) rm_X7_takes 0 0 1 := cwV9 1 ht wi_745 wi_744 wi_31 wi_60 hlink (by decide +kernel) rfl rfl hR
