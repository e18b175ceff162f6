def rm_X7_fits : Room := { frames := 1, cells := 0, slots := 0, locals := 23 }
def f_X7_fits_59 (zM : MdS) (kb_29 : Int32 → Int32 → Int32 → Option (Int32)) (x1 : Int32) (x3 : Int32) (v0 : Int32) : Option (Int32) := kb_29 x1 v0 (x3 + 1)
set_option maxHeartbeats 4000000 in
set_option maxRecDepth 100000 in
theorem b_X7_fits_59 {p : Program} {l : Launch} {e : Env} {s : State} {m : MethodId} {args : Array Value} {below : List Frame} {meth : Method} {c : Code} {G : va_G} {cA : Nat → ClassId} (qM : Nat → Nat) (zM : MdS) (C0 : Amb p s m args meth c cX7_fits RX7 4 (some .boolean) G cA (fun _ : Nat => False) ((wMd cA qM zM))) {res : Int32} (kb_29 : Int32 → Int32 → Int32 → Option (Int32)) (hkb_29 : ∀ (x1 : Int32) (x2 : Int32) (x3 : Int32) (ls : Array Slot), lv_has ls 4 [(0, .ref (qM 0)), (1, .int x1), (2, .int x2), (3, .int x3)] → kb_29 x1 x2 x3 = some res → W p l e rm_X7_fits s m args below meth c s.heap [] 0 0 (MQ below (vp_Si (fun x => x = res)) args s 0 0 (fun _ : Nat => False)) (F0 m 29 ls [])) : ∀ (x1 : Int32) (x3 : Int32) (v0 : Int32) (ls : Array Slot), lv_has ls 4 [(0, .ref (qM 0)), (1, .int x1), (3, .int x3)] → f_X7_fits_59 zM kb_29 x1 x3 v0 = some res → W p l e rm_X7_fits s m args below meth c s.heap [] 0 0 (MQ below (vp_Si (fun x => x = res)) args s 0 0 (fun _ : Nat => False)) (F0 m 59 ls [.int v0]) := by
  obtain ⟨hx, hb, hr, hml, hown, hts, hlocks, hK, hR, hRA⟩ := id C0
  intro x1 x3 v0 ls hl hf
  unfold f_X7_fits_59 at hf
  refine lv_istore_n (lv' := [(2, .int v0), (0, .ref (qM 0)), (1, .int x1), (3, .int x3)]) hx hb dX7_fits_59 rfl hl (by decide) rfl (fun ls hl => ?_)
  refine lv_iinc (v := (x3 + 1)) (lv' := [(3, .int (x3 + 1)), (2, .int v0), (0, .ref (qM 0)), (1, .int x1)]) hx hb dX7_fits_60 hl (k := 3) rfl rfl (by decide) rfl (fun ls hl => ?_)
  refine lv_goto (tgt := 29) hx hb dX7_fits_63 (by decide) ?_
  exact hkb_29 x1 v0 (x3 + 1) ls (lv_sub hl [2, 3, 1, 0] rfl) hf
def f_X7_fits_58 (zM : MdS) (kb_29 : Int32 → Int32 → Int32 → Option (Int32)) (x1 : Int32) (x3 : Int32) : Option (Int32) := f_X7_fits_59 zM kb_29 x1 x3 (0 : Int32)
set_option maxHeartbeats 4000000 in
set_option maxRecDepth 100000 in
theorem b_X7_fits_58 {p : Program} {l : Launch} {e : Env} {s : State} {m : MethodId} {args : Array Value} {below : List Frame} {meth : Method} {c : Code} {G : va_G} {cA : Nat → ClassId} (qM : Nat → Nat) (zM : MdS) (C0 : Amb p s m args meth c cX7_fits RX7 4 (some .boolean) G cA (fun _ : Nat => False) ((wMd cA qM zM))) {res : Int32} (kb_29 : Int32 → Int32 → Int32 → Option (Int32)) (hkb_29 : ∀ (x1 : Int32) (x2 : Int32) (x3 : Int32) (ls : Array Slot), lv_has ls 4 [(0, .ref (qM 0)), (1, .int x1), (2, .int x2), (3, .int x3)] → kb_29 x1 x2 x3 = some res → W p l e rm_X7_fits s m args below meth c s.heap [] 0 0 (MQ below (vp_Si (fun x => x = res)) args s 0 0 (fun _ : Nat => False)) (F0 m 29 ls [])) : ∀ (x1 : Int32) (x3 : Int32) (ls : Array Slot), lv_has ls 4 [(0, .ref (qM 0)), (1, .int x1), (3, .int x3)] → f_X7_fits_58 zM kb_29 x1 x3 = some res → W p l e rm_X7_fits s m args below meth c s.heap [] 0 0 (MQ below (vp_Si (fun x => x = res)) args s 0 0 (fun _ : Nat => False)) (F0 m 58 ls []) := by
  obtain ⟨hx, hb, hr, hml, hown, hts, hlocks, hK, hR, hRA⟩ := id C0
  intro x1 x3 ls hl hf
  unfold f_X7_fits_58 at hf
  refine lv_iconst (v := 0) hx hb dX7_fits_58 (by decide) ?_
  exact b_X7_fits_59 qM  zM C0 kb_29 hkb_29 x1 x3 (0 : Int32) ls (lv_sub hl [0, 1, 2] rfl) hf
def f_X7_fits_29 (zM : MdS) : Nat → Int32 → Int32 → Int32 → Option (Int32)
  | 0, _, _, _ => none
  | fu + 1, x1, x2, x3 => if (((1150 : Int32) * x1) + (1150 : Int32)) ≤ x3 then if zb x2 = true then some x2 else none else if x2 = 0 then f_X7_fits_58 zM (fun x1_ x2_ x3_ => f_X7_fits_29 zM fu x1_ x2_ x3_) x1 x3 else (f_X7_isOut zM x3).bind fun r_4 => if ¬ r_4 = 0 then f_X7_fits_58 zM (fun x1_ x2_ x3_ => f_X7_fits_29 zM fu x1_ x2_ x3_) x1 x3 else f_X7_fits_59 zM (fun x1_ x2_ x3_ => f_X7_fits_29 zM fu x1_ x2_ x3_) x1 x3 (1 : Int32)
set_option maxHeartbeats 4000000 in
set_option maxRecDepth 100000 in
theorem b_X7_fits_29 {p : Program} {l : Launch} {e : Env} {s : State} {m : MethodId} {args : Array Value} {below : List Frame} {meth : Method} {c : Code} {G : va_G} {cA : Nat → ClassId} (qM : Nat → Nat) (zM : MdS) (C0 : Amb p s m args meth c cX7_fits RX7 4 (some .boolean) G cA (fun _ : Nat => False) ((wMd cA qM zM))) {res : Int32} : ∀ (fu : Nat) (x1 : Int32) (x2 : Int32) (x3 : Int32) (ls : Array Slot), lv_has ls 4 [(0, .ref (qM 0)), (1, .int x1), (2, .int x2), (3, .int x3)] → f_X7_fits_29 zM fu x1 x2 x3 = some res → W p l e rm_X7_fits s m args below meth c s.heap [] 0 0 (MQ below (vp_Si (fun x => x = res)) args s 0 0 (fun _ : Nat => False)) (F0 m 29 ls []) := by
  obtain ⟨hx, hb, hr, hml, hown, hts, hlocks, hK, hR, hRA⟩ := id C0
  intro fu
  induction fu with
  | zero =>
    intro x1 x2 x3 ls hl hf
    rw [f_X7_fits_29] at hf
    cases hf
  | succ fu ih =>
    intro x1 x2 x3 ls hl hf
    rw [f_X7_fits_29] at hf
    refine lv_iload_n hx hb dX7_fits_29 rfl (lv_at hl 3 rfl) ?_
    refine lv_sipush (v := (1150 : Int32)) hx hb dX7_fits_30 (by decide) ?_
    refine lv_iload_n hx hb dX7_fits_33 rfl (lv_at hl 1 rfl) ?_
    refine lv_imul hx hb dX7_fits_34 ?_
    refine lv_sipush (v := (1150 : Int32)) hx hb dX7_fits_35 (by decide) ?_
    refine lv_iadd hx hb dX7_fits_38 ?_
    refine lv_icmp_ge (tgt := 66) hx hb dX7_fits_39 (by decide) (fun c_1 => ?_) (fun c_1 => ?_)
    · rw [if_pos (c_1)] at hf
      refine lv_iload_n hx hb dX7_fits_66 rfl (lv_at hl 2 rfl) ?_
      obtain ⟨hz_2, hf⟩ := oif hf
      cases hf
      exact W.zret hx hb hr (zb_n hz_2) (fun t ht hW => ⟨_, rfl, rfl, ht⟩) (fun q hq => by cases hq) dX7_fits_67 hlocks
    · rw [if_neg (c_1)] at hf
      refine lv_iload_n hx hb dX7_fits_42 rfl (lv_at hl 2 rfl) ?_
      refine lv_if_eq (tgt := 58) hx hb dX7_fits_43 (by decide) (fun c_3 => ?_) (fun c_3 => ?_)
      · rw [if_pos (c_3)] at hf
        exact b_X7_fits_58 qM  zM C0 (fun x1_ x2_ x3_ => f_X7_fits_29 zM fu x1_ x2_ x3_) ih x1 x3 ls (lv_sub hl [0, 1, 3] rfl) hf
      · rw [if_neg (c_3)] at hf
        refine lv_aload_n hx hb dX7_fits_46 rfl (lv_at hl 0 rfl) ?_
        refine lv_iload_n hx hb dX7_fits_47 rfl (lv_at hl 3 rfl) ?_
        obtain ⟨r_4, hr_4, hf⟩ := obd hf
        refine cRiV (As := [.int x3]) (rest := []) ⟨hx, hb, hml, hown, hts⟩ (m_X7_isOut l G cA qM zM x3 r_4 hr_4) (cw_X7_isOut hts wi_783 ⟨Nat.le_of_ble_eq_true rfl, Nat.le_of_ble_eq_true rfl⟩) hK (pk hR [0, 1, 2, 3, 4] rfl) (va_recv hK.1 hR (ci := 5) (q0 := 0) rfl rfl) rfl hl.1 rfl (Nat.le_of_ble_eq_true rfl) dX7_fits_48 ⟨Nat.zero_le _, Nat.zero_le _⟩ ?_
        refine lv_if_ne (tgt := 58) hx hb dX7_fits_51 (by decide) (fun c_5 => ?_) (fun c_5 => ?_)
        · rw [if_pos (c_5)] at hf
          exact b_X7_fits_58 qM  zM C0 (fun x1_ x2_ x3_ => f_X7_fits_29 zM fu x1_ x2_ x3_) ih x1 x3 ls (lv_sub hl [0, 1, 3] rfl) hf
        · rw [if_neg (not_not_intro c_5)] at hf
          refine lv_iconst (v := 1) hx hb dX7_fits_54 (by decide) ?_
          refine lv_goto (tgt := 59) hx hb dX7_fits_55 (by decide) ?_
          exact b_X7_fits_59 qM  zM C0 (fun x1_ x2_ x3_ => f_X7_fits_29 zM fu x1_ x2_ x3_) ih x1 x3 (1 : Int32) ls (lv_sub hl [0, 1, 3] rfl) hf
def f_X7_fits_22 (zM : MdS) (x1 : Int32) (v0 : Int32) : Option (Int32) := (some (((1150 : Int32) * x1))).bind fun y_1 => f_X7_fits_29 zM fuel x1 v0 y_1
set_option maxHeartbeats 4000000 in
set_option maxRecDepth 100000 in
theorem b_X7_fits_22 {p : Program} {l : Launch} {e : Env} {s : State} {m : MethodId} {args : Array Value} {below : List Frame} {meth : Method} {c : Code} {G : va_G} {cA : Nat → ClassId} (qM : Nat → Nat) (zM : MdS) (C0 : Amb p s m args meth c cX7_fits RX7 4 (some .boolean) G cA (fun _ : Nat => False) ((wMd cA qM zM))) {res : Int32} : ∀ (x1 : Int32) (v0 : Int32) (ls : Array Slot), lv_has ls 4 [(0, .ref (qM 0)), (1, .int x1)] → f_X7_fits_22 zM x1 v0 = some res → W p l e rm_X7_fits s m args below meth c s.heap [] 0 0 (MQ below (vp_Si (fun x => x = res)) args s 0 0 (fun _ : Nat => False)) (F0 m 22 ls [.int v0]) := by
  obtain ⟨hx, hb, hr, hml, hown, hts, hlocks, hK, hR, hRA⟩ := id C0
  intro x1 v0 ls hl hf
  unfold f_X7_fits_22 at hf
  refine lv_istore_n (lv' := [(2, .int v0), (0, .ref (qM 0)), (1, .int x1)]) hx hb dX7_fits_22 rfl hl (by decide) rfl (fun ls hl => ?_)
  refine lv_sipush (v := (1150 : Int32)) hx hb dX7_fits_23 (by decide) ?_
  refine lv_iload_n hx hb dX7_fits_26 rfl (lv_at hl 2 rfl) ?_
  refine lv_imul hx hb dX7_fits_27 ?_
  obtain ⟨y_1, hq, hf⟩ := obd hf
  have hy_1 : ((1150 : Int32) * x1) = y_1 := Option.some.inj hq
  rw [hy_1]
  refine lv_istore_n (lv' := [(3, .int y_1), (2, .int v0), (0, .ref (qM 0)), (1, .int x1)]) hx hb dX7_fits_28 rfl hl (by decide) rfl (fun ls hl => ?_)
  exact b_X7_fits_29 qM  zM C0  fuel x1 v0 y_1 ls (lv_sub hl [2, 3, 1, 0] rfl) hf
def f_X7_fits_21 (zM : MdS) (x1 : Int32) : Option (Int32) := f_X7_fits_22 zM x1 (0 : Int32)
set_option maxHeartbeats 4000000 in
set_option maxRecDepth 100000 in
theorem b_X7_fits_21 {p : Program} {l : Launch} {e : Env} {s : State} {m : MethodId} {args : Array Value} {below : List Frame} {meth : Method} {c : Code} {G : va_G} {cA : Nat → ClassId} (qM : Nat → Nat) (zM : MdS) (C0 : Amb p s m args meth c cX7_fits RX7 4 (some .boolean) G cA (fun _ : Nat => False) ((wMd cA qM zM))) {res : Int32} : ∀ (x1 : Int32) (ls : Array Slot), lv_has ls 4 [(0, .ref (qM 0)), (1, .int x1)] → f_X7_fits_21 zM x1 = some res → W p l e rm_X7_fits s m args below meth c s.heap [] 0 0 (MQ below (vp_Si (fun x => x = res)) args s 0 0 (fun _ : Nat => False)) (F0 m 21 ls []) := by
  obtain ⟨hx, hb, hr, hml, hown, hts, hlocks, hK, hR, hRA⟩ := id C0
  intro x1 ls hl hf
  unfold f_X7_fits_21 at hf
  refine lv_iconst (v := 0) hx hb dX7_fits_21 (by decide) ?_
  exact b_X7_fits_22 qM  zM C0  x1 (0 : Int32) ls (lv_sub hl [0, 1] rfl) hf
def f_X7_fits (zM : MdS) (a1 : Int32) : Option (Int32) := if ¬ (gM_isFull zM) = 0 then f_X7_fits_21 zM a1 else (f_X7_termsOf zM a1).bind fun r_2 => if (40 : Int32) < r_2 then f_X7_fits_21 zM a1 else f_X7_fits_22 zM a1 (1 : Int32)
set_option maxHeartbeats 4000000 in
set_option maxRecDepth 100000 in
theorem b_X7_fits_0 {p : Program} {l : Launch} {e : Env} {s : State} {m : MethodId} {args : Array Value} {below : List Frame} {meth : Method} {c : Code} {G : va_G} {cA : Nat → ClassId} (qM : Nat → Nat) (zM : MdS) (C0 : Amb p s m args meth c cX7_fits RX7 4 (some .boolean) G cA (fun _ : Nat => False) ((wMd cA qM zM))) {res : Int32} : ∀ (a1 : Int32) (ls : Array Slot), lv_has ls 4 [(0, .ref (qM 0)), (1, .int a1)] → f_X7_fits zM a1 = some res → W p l e rm_X7_fits s m args below meth c s.heap [] 0 0 (MQ below (vp_Si (fun x => x = res)) args s 0 0 (fun _ : Nat => False)) (F0 m 0 ls []) := by
  obtain ⟨hx, hb, hr, hml, hown, hts, hlocks, hK, hR, hRA⟩ := id C0
  intro a1 ls hl hf
  unfold f_X7_fits at hf
  refine lv_aload_n hx hb dX7_fits_0 rfl (lv_at hl 0 rfl) ?_
  refine va_get (D := G) (ci := 5) (v := .int (gM_isFull zM)) (C := RX7) (T := TX7) (N := 13) hx hb hts fin_X7 hown hK.1 hR 0 rfl rfl 8 (by decide) (hts _ wi_679) (fun _ h9 => h9) rfl dX7_fits_1 ?_
  refine lv_if_ne (tgt := 21) hx hb dX7_fits_4 (by decide) (fun c_1 => ?_) (fun c_1 => ?_)
  · rw [if_pos (c_1)] at hf
    exact b_X7_fits_21 qM  zM C0  a1 ls (lv_sub hl [0, 1] rfl) hf
  · rw [if_neg (not_not_intro c_1)] at hf
    refine lv_aload_n hx hb dX7_fits_7 rfl (lv_at hl 0 rfl) ?_
    refine lv_iload_n hx hb dX7_fits_8 rfl (lv_at hl 1 rfl) ?_
    obtain ⟨r_2, hr_2, hf⟩ := obd hf
    refine cRiV (As := [.int a1]) (rest := []) ⟨hx, hb, hml, hown, hts⟩ (m_X7_termsOf l G cA qM zM a1 r_2 hr_2) (cw_X7_termsOf hts wi_798 ⟨Nat.le_of_ble_eq_true rfl, Nat.le_of_ble_eq_true rfl⟩) hK (pk hR [0, 1, 2, 3, 4] rfl) (va_recv hK.1 hR (ci := 5) (q0 := 0) rfl rfl) rfl hl.1 rfl (Nat.le_of_ble_eq_true rfl) dX7_fits_9 ⟨Nat.zero_le _, Nat.zero_le _⟩ ?_
    refine lv_bipush (v := (40 : Int32)) hx hb dX7_fits_12 (by decide) ?_
    refine lv_icmp_gt (tgt := 21) hx hb dX7_fits_14 (by decide) (fun c_3 => ?_) (fun c_3 => ?_)
    · rw [if_pos (c_3)] at hf
      exact b_X7_fits_21 qM  zM C0  a1 ls (lv_sub hl [0, 1] rfl) hf
    · rw [if_neg (c_3)] at hf
      refine lv_iconst (v := 1) hx hb dX7_fits_17 (by decide) ?_
      refine lv_goto (tgt := 22) hx hb dX7_fits_18 (by decide) ?_
      exact b_X7_fits_22 qM  zM C0  a1 (1 : Int32) ls (lv_sub hl [0, 1] rfl) hf

set_option maxRecDepth 100000 in
theorem m_X7_fits (l : Launch) (G : va_G) (cA : Nat → ClassId) (qM : Nat → Nat) (zM : MdS) (a1 : Int32) (res : Int32) (hf : f_X7_fits zM a1 = some res) : MRi l yX7_fits (.code yX7_fits cX7_fits 4 (some .boolean) :: wd) rm_X7_fits G cA [.ref (qM 0), .int a1] ((wMd cA qM zM)) res := by
  refine Met.ofW (cc := cX7_fits) (maxL := 4) (ret := (some .boolean)) (by decide) rfl ?_
  intro p e s m args below meth c s₁ B hml hv
  obtain ⟨rfl, hK, hR⟩ := hv
  have C0 : Amb p s m ([.ref (qM 0), .int a1] : List Value).toArray meth c cX7_fits RX7 4 (some .boolean) G cA (fun _ : Nat => False) ((wMd cA qM zM)) := ⟨B.exec, B.bytes, B.returns, hml, findClass_of_methodNamed B.named, fun w h => atoms_spec (ws := (.code yX7_fits cX7_fits 4 (some .boolean) :: wd)) B.pre w (List.mem_cons_of_mem _ h), B.notSynchronized, hK, hR, fun _ _ _ h => h⟩
  have hl := lv_entry ([.ref (qM 0), .int a1]) (n := 4) (Nat.le_of_ble_eq_true rfl)
  rw [lg_entry_eq]
  generalize (lg_sl ([.ref (qM 0), .int a1]) ++ List.replicate (4 - (lg_sl ([.ref (qM 0), .int a1])).length) Slot.unset).toArray = ls at hl ⊢
  have hl : lv_has ls 4 [(0, .ref (qM 0)), (1, .int a1)] := hl
  exact b_X7_fits_0 qM  zM C0 a1 ls hl hf
theorem cw_X7_fits {R : Room} {s : State} {args : Array Value} {own : String} {index : Nat} (ht : ∀ w ∈ wd, w.before args s = true) (hlink : Cond.methodLink own index yX7_fits ∈ wd) (hR : rm_X7_fits.frames + 1 ≤ R.frames ∧ 8 + (4 + 11) + rm_X7_fits.locals ≤ R.locals) : CallW R s args own RX7 index yX7_fits cX7_fits 4 (some .boolean) (.code yX7_fits cX7_fits 4 (some .boolean) :: wd) rm_X7_fits 0 0 1 := cwV9 1 ht wi_797 wi_796 wi_41 wi_60 hlink (by decide +kernel) rfl rfl hR
def rm_X7_isSmall : Room := { frames := 1, cells := 0, slots := 0, locals := 20 }
def f_X7_isSmall_138 (zM : MdS) (kb_4 : Int32 → Int32 → Int32 → Option (Int32)) (kb_14 : Int32 → Int32 → Int32 → Int32 → Option (Int32)) (x1 : Int32) (x2 : Int32) (x3 : Int32) (x4 : Int32) : Option (Int32) := kb_14 x1 x2 x3 (x4 + 1)
set_option maxHeartbeats 4000000 in
set_option maxRecDepth 100000 in
theorem b_X7_isSmall_138 {p : Program} {l : Launch} {e : Env} {s : State} {m : MethodId} {args : Array Value} {below : List Frame} {meth : Method} {c : Code} {G : va_G} {cA : Nat → ClassId} (qM : Nat → Nat) (zM : MdS) (C0 : Amb p s m args meth c cX7_isSmall RX7 7 (some .boolean) G cA (fun _ : Nat => False) ((wMd cA qM zM))) {res : Int32} (kb_4 : Int32 → Int32 → Int32 → Option (Int32)) (hkb_4 : ∀ (x1 : Int32) (x2 : Int32) (x3 : Int32) (ls : Array Slot), lv_has ls 7 [(0, .ref (qM 0)), (1, .int x1), (2, .int x2), (3, .int x3)] → kb_4 x1 x2 x3 = some res → W p l e rm_X7_isSmall s m args below meth c s.heap [] 0 0 (MQ below (vp_Si (fun x => x = res)) args s 0 0 (fun _ : Nat => False)) (F0 m 4 ls [])) (kb_14 : Int32 → Int32 → Int32 → Int32 → Option (Int32)) (hkb_14 : ∀ (x1 : Int32) (x2 : Int32) (x3 : Int32) (x4 : Int32) (ls : Array Slot), lv_has ls 7 [(0, .ref (qM 0)), (1, .int x1), (2, .int x2), (3, .int x3), (4, .int x4)] → kb_14 x1 x2 x3 x4 = some res → W p l e rm_X7_isSmall s m args below meth c s.heap [] 0 0 (MQ below (vp_Si (fun x => x = res)) args s 0 0 (fun _ : Nat => False)) (F0 m 14 ls [])) : ∀ (x1 : Int32) (x2 : Int32) (x3 : Int32) (x4 : Int32) (ls : Array Slot), lv_has ls 7 [(0, .ref (qM 0)), (1, .int x1), (2, .int x2), (3, .int x3), (4, .int x4)] → f_X7_isSmall_138 zM kb_4 kb_14 x1 x2 x3 x4 = some res → W p l e rm_X7_isSmall s m args below meth c s.heap [] 0 0 (MQ below (vp_Si (fun x => x = res)) args s 0 0 (fun _ : Nat => False)) (F0 m 138 ls []) := by
  obtain ⟨hx, hb, hr, hml, hown, hts, hlocks, hK, hR, hRA⟩ := id C0
  intro x1 x2 x3 x4 ls hl hf
  unfold f_X7_isSmall_138 at hf
  refine lv_iinc (v := (x4 + 1)) (lv' := [(4, .int (x4 + 1)), (0, .ref (qM 0)), (1, .int x1), (2, .int x2), (3, .int x3)]) hx hb dX7_isSmall_138 hl (k := 4) rfl rfl (by decide) rfl (fun ls hl => ?_)
  refine lv_goto (tgt := 14) hx hb dX7_isSmall_141 (by decide) ?_
  exact hkb_14 x1 x2 x3 (x4 + 1) ls (lv_sub hl [1, 2, 3, 4, 0] rfl) hf
def f_X7_isSmall_137 (zM : MdS) (kb_4 : Int32 → Int32 → Int32 → Option (Int32)) (kb_14 : Int32 → Int32 → Int32 → Int32 → Option (Int32)) (x1 : Int32) (x3 : Int32) (x4 : Int32) (v0 : Int32) : Option (Int32) := f_X7_isSmall_138 zM kb_4 kb_14 x1 v0 x3 x4
set_option maxHeartbeats 4000000 in
set_option maxRecDepth 100000 in
theorem b_X7_isSmall_137 {p : Program} {l : Launch} {e : Env} {s : State} {m : MethodId} {args : Array Value} {below : List Frame} {meth : Method} {c : Code} {G : va_G} {cA : Nat → ClassId} (qM : Nat → Nat) (zM : MdS) (C0 : Amb p s m args meth c cX7_isSmall RX7 7 (some .boolean) G cA (fun _ : Nat => False) ((wMd cA qM zM))) {res : Int32} (kb_4 : Int32 → Int32 → Int32 → Option (Int32)) (hkb_4 : ∀ (x1 : Int32) (x2 : Int32) (x3 : Int32) (ls : Array Slot), lv_has ls 7 [(0, .ref (qM 0)), (1, .int x1), (2, .int x2), (3, .int x3)] → kb_4 x1 x2 x3 = some res → W p l e rm_X7_isSmall s m args below meth c s.heap [] 0 0 (MQ below (vp_Si (fun x => x = res)) args s 0 0 (fun _ : Nat => False)) (F0 m 4 ls [])) (kb_14 : Int32 → Int32 → Int32 → Int32 → Option (Int32)) (hkb_14 : ∀ (x1 : Int32) (x2 : Int32) (x3 : Int32) (x4 : Int32) (ls : Array Slot), lv_has ls 7 [(0, .ref (qM 0)), (1, .int x1), (2, .int x2), (3, .int x3), (4, .int x4)] → kb_14 x1 x2 x3 x4 = some res → W p l e rm_X7_isSmall s m args below meth c s.heap [] 0 0 (MQ below (vp_Si (fun x => x = res)) args s 0 0 (fun _ : Nat => False)) (F0 m 14 ls [])) : ∀ (x1 : Int32) (x3 : Int32) (x4 : Int32) (v0 : Int32) (ls : Array Slot), lv_has ls 7 [(0, .ref (qM 0)), (1, .int x1), (3, .int x3), (4, .int x4)] → f_X7_isSmall_137 zM kb_4 kb_14 x1 x3 x4 v0 = some res → W p l e rm_X7_isSmall s m args below meth c s.heap [] 0 0 (MQ below (vp_Si (fun x => x = res)) args s 0 0 (fun _ : Nat => False)) (F0 m 137 ls [.int v0]) := by
  obtain ⟨hx, hb, hr, hml, hown, hts, hlocks, hK, hR, hRA⟩ := id C0
  intro x1 x3 x4 v0 ls hl hf
  unfold f_X7_isSmall_137 at hf
  refine lv_istore_n (lv' := [(2, .int v0), (0, .ref (qM 0)), (1, .int x1), (3, .int x3), (4, .int x4)]) hx hb dX7_isSmall_137 rfl hl (by decide) rfl (fun ls hl => ?_)
  exact b_X7_isSmall_138 qM  zM C0 kb_4 hkb_4 kb_14 hkb_14 x1 v0 x3 x4 ls (lv_sub hl [1, 2, 0, 3, 4] rfl) hf
def f_X7_isSmall_136 (zM : MdS) (kb_4 : Int32 → Int32 → Int32 → Option (Int32)) (kb_14 : Int32 → Int32 → Int32 → Int32 → Option (Int32)) (x1 : Int32) (x3 : Int32) (x4 : Int32) : Option (Int32) := f_X7_isSmall_137 zM kb_4 kb_14 x1 x3 x4 (0 : Int32)
set_option maxHeartbeats 4000000 in
set_option maxRecDepth 100000 in
theorem b_X7_isSmall_136 {p : Program} {l : Launch} {e : Env} {s : State} {m : MethodId} {args : Array Value} {below : List Frame} {meth : Method} {c : Code} {G : va_G} {cA : Nat → ClassId} (qM : Nat → Nat) (zM : MdS) (C0 : Amb p s m args meth c cX7_isSmall RX7 7 (some .boolean) G cA (fun _ : Nat => False) ((wMd cA qM zM))) {res : Int32} (kb_4 : Int32 → Int32 → Int32 → Option (Int32)) (hkb_4 : ∀ (x1 : Int32) (x2 : Int32) (x3 : Int32) (ls : Array Slot), lv_has ls 7 [(0, .ref (qM 0)), (1, .int x1), (2, .int x2), (3, .int x3)] → kb_4 x1 x2 x3 = some res → W p l e rm_X7_isSmall s m args below meth c s.heap [] 0 0 (MQ below (vp_Si (fun x => x = res)) args s 0 0 (fun _ : Nat => False)) (F0 m 4 ls [])) (kb_14 : Int32 → Int32 → Int32 → Int32 → Option (Int32)) (hkb_14 : ∀ (x1 : Int32) (x2 : Int32) (x3 : Int32) (x4 : Int32) (ls : Array Slot), lv_has ls 7 [(0, .ref (qM 0)), (1, .int x1), (2, .int x2), (3, .int x3), (4, .int x4)] → kb_14 x1 x2 x3 x4 = some res → W p l e rm_X7_isSmall s m args below meth c s.heap [] 0 0 (MQ below (vp_Si (fun x => x = res)) args s 0 0 (fun _ : Nat => False)) (F0 m 14 ls [])) : ∀ (x1 : Int32) (x3 : Int32) (x4 : Int32) (ls : Array Slot), lv_has ls 7 [(0, .ref (qM 0)), (1, .int x1), (3, .int x3), (4, .int x4)] → f_X7_isSmall_136 zM kb_4 kb_14 x1 x3 x4 = some res → W p l e rm_X7_isSmall s m args below meth c s.heap [] 0 0 (MQ below (vp_Si (fun x => x = res)) args s 0 0 (fun _ : Nat => False)) (F0 m 136 ls []) := by
  obtain ⟨hx, hb, hr, hml, hown, hts, hlocks, hK, hR, hRA⟩ := id C0
  intro x1 x3 x4 ls hl hf
  unfold f_X7_isSmall_136 at hf
  refine lv_iconst (v := 0) hx hb dX7_isSmall_136 (by decide) ?_
  exact b_X7_isSmall_137 qM  zM C0 kb_4 hkb_4 kb_14 hkb_14 x1 x3 x4 (0 : Int32) ls (lv_sub hl [0, 1, 2, 3] rfl) hf
def f_X7_isSmall_14 (zM : MdS) (kb_4 : Int32 → Int32 → Int32 → Option (Int32)) : Nat → Int32 → Int32 → Int32 → Int32 → Option (Int32)
  | 0, _, _, _, _ => none
  | fu + 1, x1, x2, x3, x4 => if (13 : Int32) ≤ x4 then kb_4 x1 x2 (x3 + 1) else (some ((((((1150 : Int32) * x1) + ((25 : Int32) * x3)) + x4) + (12 : Int32)))).bind fun y_2 => if inb y_2 nUD = true then if ¬ (gM_up zM y_2.toNatClampNeg) = (0 : Int64) then (f_X7_countOf x3).bind fun r_5 => if x2 = 0 then f_X7_isSmall_136 zM kb_4 (fun x1_ x2_ x3_ x4_ => f_X7_isSmall_14 zM kb_4 fu x1_ x2_ x3_ x4_) x1 x3 x4 else if inb y_2 nUD = true then if (100 : Int64) < (gM_up zM y_2.toNatClampNeg) then f_X7_isSmall_136 zM kb_4 (fun x1_ x2_ x3_ x4_ => f_X7_isSmall_14 zM kb_4 fu x1_ x2_ x3_ x4_) x1 x3 x4 else if inb y_2 nUD = true then if (gM_up zM y_2.toNatClampNeg) < (-100 : Int64) then f_X7_isSmall_136 zM kb_4 (fun x1_ x2_ x3_ x4_ => f_X7_isSmall_14 zM kb_4 fu x1_ x2_ x3_ x4_) x1 x3 x4 else if inb y_2 nUD = true then if (6 : Int64) < (gM_down zM y_2.toNatClampNeg) then f_X7_isSmall_136 zM kb_4 (fun x1_ x2_ x3_ x4_ => f_X7_isSmall_14 zM kb_4 fu x1_ x2_ x3_ x4_) x1 x3 x4 else if (4 : Int32) < x4 then f_X7_isSmall_136 zM kb_4 (fun x1_ x2_ x3_ x4_ => f_X7_isSmall_14 zM kb_4 fu x1_ x2_ x3_ x4_) x1 x3 x4 else if x4 < (-4 : Int32) then f_X7_isSmall_136 zM kb_4 (fun x1_ x2_ x3_ x4_ => f_X7_isSmall_14 zM kb_4 fu x1_ x2_ x3_ x4_) x1 x3 x4 else if (3 : Int32) < r_5 then f_X7_isSmall_136 zM kb_4 (fun x1_ x2_ x3_ x4_ => f_X7_isSmall_14 zM kb_4 fu x1_ x2_ x3_ x4_) x1 x3 x4 else if r_5 < (-3 : Int32) then f_X7_isSmall_136 zM kb_4 (fun x1_ x2_ x3_ x4_ => f_X7_isSmall_14 zM kb_4 fu x1_ x2_ x3_ x4_) x1 x3 x4 else f_X7_isSmall_137 zM kb_4 (fun x1_ x2_ x3_ x4_ => f_X7_isSmall_14 zM kb_4 fu x1_ x2_ x3_ x4_) x1 x3 x4 (1 : Int32) else none else none else none else f_X7_isSmall_138 zM kb_4 (fun x1_ x2_ x3_ x4_ => f_X7_isSmall_14 zM kb_4 fu x1_ x2_ x3_ x4_) x1 x2 x3 x4 else none
set_option maxHeartbeats 4000000 in
set_option maxRecDepth 100000 in
theorem b_X7_isSmall_14 {p : Program} {l : Launch} {e : Env} {s : State} {m : MethodId} {args : Array Value} {below : List Frame} {meth : Method} {c : Code} {G : va_G} {cA : Nat → ClassId} (qM : Nat → Nat) (zM : MdS) (C0 : Amb p s m args meth c cX7_isSmall RX7 7 (some .boolean) G cA (fun _ : Nat => False) ((wMd cA qM zM))) {res : Int32} (kb_4 : Int32 → Int32 → Int32 → Option (Int32)) (hkb_4 : ∀ (x1 : Int32) (x2 : Int32) (x3 : Int32) (ls : Array Slot), lv_has ls 7 [(0, .ref (qM 0)), (1, .int x1), (2, .int x2), (3, .int x3)] → kb_4 x1 x2 x3 = some res → W p l e rm_X7_isSmall s m args below meth c s.heap [] 0 0 (MQ below (vp_Si (fun x => x = res)) args s 0 0 (fun _ : Nat => False)) (F0 m 4 ls [])) : ∀ (fu : Nat) (x1 : Int32) (x2 : Int32) (x3 : Int32) (x4 : Int32) (ls : Array Slot), lv_has ls 7 [(0, .ref (qM 0)), (1, .int x1), (2, .int x2), (3, .int x3), (4, .int x4)] → f_X7_isSmall_14 zM kb_4 fu x1 x2 x3 x4 = some res → W p l e rm_X7_isSmall s m args below meth c s.heap [] 0 0 (MQ below (vp_Si (fun x => x = res)) args s 0 0 (fun _ : Nat => False)) (F0 m 14 ls []) := by
  obtain ⟨hx, hb, hr, hml, hown, hts, hlocks, hK, hR, hRA⟩ := id C0
  intro fu
  induction fu with
  | zero =>
    intro x1 x2 x3 x4 ls hl hf
    rw [f_X7_isSmall_14] at hf
    cases hf
  | succ fu ih =>
    intro x1 x2 x3 x4 ls hl hf
    rw [f_X7_isSmall_14] at hf
    refine lv_iload hx hb dX7_isSmall_14 (lv_at hl 4 rfl) ?_
    refine lv_bipush (v := (13 : Int32)) hx hb dX7_isSmall_16 (by decide) ?_
    refine lv_icmp_ge (tgt := 144) hx hb dX7_isSmall_18 (by decide) (fun c_1 => ?_) (fun c_1 => ?_)
    · rw [if_pos (c_1)] at hf
      refine lv_iinc (v := (x3 + 1)) (lv' := [(3, .int (x3 + 1)), (0, .ref (qM 0)), (1, .int x1), (2, .int x2), (4, .int x4)]) hx hb dX7_isSmall_144 hl (k := 3) rfl rfl (by decide) rfl (fun ls hl => ?_)
      refine lv_goto (tgt := 4) hx hb dX7_isSmall_147 (by decide) ?_
      exact hkb_4 x1 x2 (x3 + 1) ls (lv_sub hl [1, 2, 3, 0] rfl) hf
    · rw [if_neg (c_1)] at hf
      refine lv_sipush (v := (1150 : Int32)) hx hb dX7_isSmall_21 (by decide) ?_
      refine lv_iload_n hx hb dX7_isSmall_24 rfl (lv_at hl 1 rfl) ?_
      refine lv_imul hx hb dX7_isSmall_25 ?_
      refine lv_bipush (v := (25 : Int32)) hx hb dX7_isSmall_26 (by decide) ?_
      refine lv_iload_n hx hb dX7_isSmall_28 rfl (lv_at hl 3 rfl) ?_
      refine lv_imul hx hb dX7_isSmall_29 ?_
      refine lv_iadd hx hb dX7_isSmall_30 ?_
      refine lv_iload hx hb dX7_isSmall_31 (lv_at hl 4 rfl) ?_
      refine lv_iadd hx hb dX7_isSmall_33 ?_
      refine lv_bipush (v := (12 : Int32)) hx hb dX7_isSmall_34 (by decide) ?_
      refine lv_iadd hx hb dX7_isSmall_36 ?_
      obtain ⟨y_2, hq, hf⟩ := obd hf
      have hy_2 : (((((1150 : Int32) * x1) + ((25 : Int32) * x3)) + x4) + (12 : Int32)) = y_2 := Option.some.inj hq
      rw [hy_2]
      refine lv_istore (lv' := [(5, .int y_2), (0, .ref (qM 0)), (1, .int x1), (2, .int x2), (3, .int x3), (4, .int x4)]) hx hb dX7_isSmall_37 hl (by decide) rfl (fun ls hl => ?_)
      refine lv_aload_n hx hb dX7_isSmall_39 rfl (lv_at hl 1 rfl) ?_
      refine va_get (D := G) (ci := 5) (v := .ref (qM 3)) (C := RX7) (T := TX7) (N := 13) hx hb hts fin_X7 hown hK.1 hR 0 rfl rfl 6 (by decide) (hts _ wi_677) (fun _ h9 => h9) rfl dX7_isSmall_40 ?_
      refine lv_iload hx hb dX7_isSmall_43 (lv_at hl 0 rfl) ?_
      obtain ⟨hi_3, hf⟩ := oif hf
      refine va_lald hx hb hK.1 hR 3 1 rfl rfl (inb_in hi_3) dX7_isSmall_45 ?_
      refine lv_lconst (v := (0 : Int64)) hx hb dX7_isSmall_46 (by decide) ?_
      refine W.lcmp hx hb dX7_isSmall_47 ?_
      refine lv_if_ne (tgt := 54) hx hb dX7_isSmall_48 (by decide) (fun c_4 => ?_) (fun c_4 => ?_)
      · rw [if_pos (fun h => c_4 ((lg_cmp_eq _ _).mpr h))] at hf
        refine lv_iload_n hx hb dX7_isSmall_54 rfl (lv_at hl 4 rfl) ?_
        obtain ⟨r_5, hr_5, hf⟩ := obd hf
        refine cRiS (As := [.int x3]) (rest := []) ⟨hx, hb, hml, hown, hts⟩ (m_X7_countOf l G cA x3 r_5 hr_5) (cw_X7_countOf hts wi_836 ⟨Nat.le_of_ble_eq_true rfl, Nat.le_of_ble_eq_true rfl⟩) hK va_Pnil rfl hl.1 rfl (Nat.le_of_ble_eq_true rfl) dX7_isSmall_55 ⟨Nat.zero_le _, Nat.zero_le _⟩ ?_
        refine lv_istore (lv' := [(6, .int r_5), (5, .int y_2), (0, .ref (qM 0)), (1, .int x1), (2, .int x2), (3, .int x3), (4, .int x4)]) hx hb dX7_isSmall_58 hl (by decide) rfl (fun ls hl => ?_)
        refine lv_iload_n hx hb dX7_isSmall_60 rfl (lv_at hl 4 rfl) ?_
        refine lv_if_eq (tgt := 136) hx hb dX7_isSmall_61 (by decide) (fun c_6 => ?_) (fun c_6 => ?_)
        · rw [if_pos (c_6)] at hf
          exact b_X7_isSmall_136 qM  zM C0 kb_4 hkb_4 (fun x1_ x2_ x3_ x4_ => f_X7_isSmall_14 zM kb_4 fu x1_ x2_ x3_ x4_) ih x1 x3 x4 ls (lv_sub hl [2, 3, 5, 6] rfl) hf
        · rw [if_neg (c_6)] at hf
          refine lv_aload_n hx hb dX7_isSmall_64 rfl (lv_at hl 2 rfl) ?_
          refine va_get (D := G) (ci := 5) (v := .ref (qM 3)) (C := RX7) (T := TX7) (N := 13) hx hb hts fin_X7 hown hK.1 hR 0 rfl rfl 6 (by decide) (hts _ wi_677) (fun _ h9 => h9) rfl dX7_isSmall_65 ?_
          refine lv_iload hx hb dX7_isSmall_68 (lv_at hl 1 rfl) ?_
          obtain ⟨hi_7, hf⟩ := oif hf
          refine va_lald hx hb hK.1 hR 3 1 rfl rfl (inb_in hi_7) dX7_isSmall_70 ?_
          refine lv_ldc2 (v := (100 : Int64)) hx hb hown (hts _ wi_851) dX7_isSmall_71 ?_
          refine W.lcmp hx hb dX7_isSmall_74 ?_
          refine lv_if_gt (tgt := 136) hx hb dX7_isSmall_75 (by decide) (fun c_8 => ?_) (fun c_8 => ?_)
          · rw [if_pos ((lg_cmp_gt _ _).mp c_8)] at hf
            exact b_X7_isSmall_136 qM  zM C0 kb_4 hkb_4 (fun x1_ x2_ x3_ x4_ => f_X7_isSmall_14 zM kb_4 fu x1_ x2_ x3_ x4_) ih x1 x3 x4 ls (lv_sub hl [2, 3, 5, 6] rfl) hf
          · rw [if_neg (fun h => c_8 ((lg_cmp_gt _ _).mpr h))] at hf
            refine lv_aload_n hx hb dX7_isSmall_78 rfl (lv_at hl 2 rfl) ?_
            refine va_get (D := G) (ci := 5) (v := .ref (qM 3)) (C := RX7) (T := TX7) (N := 13) hx hb hts fin_X7 hown hK.1 hR 0 rfl rfl 6 (by decide) (hts _ wi_677) (fun _ h9 => h9) rfl dX7_isSmall_79 ?_
            refine lv_iload hx hb dX7_isSmall_82 (lv_at hl 1 rfl) ?_
            obtain ⟨hi_9, hf⟩ := oif hf
            refine va_lald hx hb hK.1 hR 3 1 rfl rfl (inb_in hi_9) dX7_isSmall_84 ?_
            refine lv_ldc2 (v := (-100 : Int64)) hx hb hown (hts _ wi_852) dX7_isSmall_85 ?_
            refine W.lcmp hx hb dX7_isSmall_88 ?_
            refine lv_if_lt (tgt := 136) hx hb dX7_isSmall_89 (by decide) (fun c_10 => ?_) (fun c_10 => ?_)
            · rw [if_pos ((lg_cmp_lt _ _).mp c_10)] at hf
              exact b_X7_isSmall_136 qM  zM C0 kb_4 hkb_4 (fun x1_ x2_ x3_ x4_ => f_X7_isSmall_14 zM kb_4 fu x1_ x2_ x3_ x4_) ih x1 x3 x4 ls (lv_sub hl [2, 3, 5, 6] rfl) hf
            · rw [if_neg (fun h => c_10 ((lg_cmp_lt _ _).mpr h))] at hf
              refine lv_aload_n hx hb dX7_isSmall_92 rfl (lv_at hl 2 rfl) ?_
              refine va_get (D := G) (ci := 5) (v := .ref (qM 4)) (C := RX7) (T := TX7) (N := 13) hx hb hts fin_X7 hown hK.1 hR 0 rfl rfl 7 (by decide) (hts _ wi_678) (fun _ h9 => h9) rfl dX7_isSmall_93 ?_
              refine lv_iload hx hb dX7_isSmall_96 (lv_at hl 1 rfl) ?_
              obtain ⟨hi_11, hf⟩ := oif hf
              refine va_lald hx hb hK.1 hR 4 1 rfl rfl (inb_in hi_11) dX7_isSmall_98 ?_
              refine lv_ldc2 (v := (6 : Int64)) hx hb hown (hts _ wi_853) dX7_isSmall_99 ?_
              refine W.lcmp hx hb dX7_isSmall_102 ?_
              refine lv_if_gt (tgt := 136) hx hb dX7_isSmall_103 (by decide) (fun c_12 => ?_) (fun c_12 => ?_)
              · rw [if_pos ((lg_cmp_gt _ _).mp c_12)] at hf
                exact b_X7_isSmall_136 qM  zM C0 kb_4 hkb_4 (fun x1_ x2_ x3_ x4_ => f_X7_isSmall_14 zM kb_4 fu x1_ x2_ x3_ x4_) ih x1 x3 x4 ls (lv_sub hl [2, 3, 5, 6] rfl) hf
              · rw [if_neg (fun h => c_12 ((lg_cmp_gt _ _).mpr h))] at hf
                refine lv_iload hx hb dX7_isSmall_106 (lv_at hl 6 rfl) ?_
                refine lv_iconst (v := 4) hx hb dX7_isSmall_108 (by decide) ?_
                refine lv_icmp_gt (tgt := 136) hx hb dX7_isSmall_109 (by decide) (fun c_13 => ?_) (fun c_13 => ?_)
                · rw [if_pos (c_13)] at hf
                  exact b_X7_isSmall_136 qM  zM C0 kb_4 hkb_4 (fun x1_ x2_ x3_ x4_ => f_X7_isSmall_14 zM kb_4 fu x1_ x2_ x3_ x4_) ih x1 x3 x4 ls (lv_sub hl [2, 3, 5, 6] rfl) hf
                · rw [if_neg (c_13)] at hf
                  refine lv_iload hx hb dX7_isSmall_112 (lv_at hl 6 rfl) ?_
                  refine lv_bipush (v := (-4 : Int32)) hx hb dX7_isSmall_114 (by decide) ?_
                  refine lv_icmp_lt (tgt := 136) hx hb dX7_isSmall_116 (by decide) (fun c_14 => ?_) (fun c_14 => ?_)
                  · rw [if_pos (c_14)] at hf
                    exact b_X7_isSmall_136 qM  zM C0 kb_4 hkb_4 (fun x1_ x2_ x3_ x4_ => f_X7_isSmall_14 zM kb_4 fu x1_ x2_ x3_ x4_) ih x1 x3 x4 ls (lv_sub hl [2, 3, 5, 6] rfl) hf
                  · rw [if_neg (c_14)] at hf
                    refine lv_iload hx hb dX7_isSmall_119 (lv_at hl 0 rfl) ?_
                    refine lv_iconst (v := 3) hx hb dX7_isSmall_121 (by decide) ?_
                    refine lv_icmp_gt (tgt := 136) hx hb dX7_isSmall_122 (by decide) (fun c_15 => ?_) (fun c_15 => ?_)
                    · rw [if_pos (c_15)] at hf
                      exact b_X7_isSmall_136 qM  zM C0 kb_4 hkb_4 (fun x1_ x2_ x3_ x4_ => f_X7_isSmall_14 zM kb_4 fu x1_ x2_ x3_ x4_) ih x1 x3 x4 ls (lv_sub hl [2, 3, 5, 6] rfl) hf
                    · rw [if_neg (c_15)] at hf
                      refine lv_iload hx hb dX7_isSmall_125 (lv_at hl 0 rfl) ?_
                      refine lv_bipush (v := (-3 : Int32)) hx hb dX7_isSmall_127 (by decide) ?_
                      refine lv_icmp_lt (tgt := 136) hx hb dX7_isSmall_129 (by decide) (fun c_16 => ?_) (fun c_16 => ?_)
                      · rw [if_pos (c_16)] at hf
                        exact b_X7_isSmall_136 qM  zM C0 kb_4 hkb_4 (fun x1_ x2_ x3_ x4_ => f_X7_isSmall_14 zM kb_4 fu x1_ x2_ x3_ x4_) ih x1 x3 x4 ls (lv_sub hl [2, 3, 5, 6] rfl) hf
                      · rw [if_neg (c_16)] at hf
                        refine lv_iconst (v := 1) hx hb dX7_isSmall_132 (by decide) ?_
                        refine lv_goto (tgt := 137) hx hb dX7_isSmall_133 (by decide) ?_
                        exact b_X7_isSmall_137 qM  zM C0 kb_4 hkb_4 (fun x1_ x2_ x3_ x4_ => f_X7_isSmall_14 zM kb_4 fu x1_ x2_ x3_ x4_) ih x1 x3 x4 (1 : Int32) ls (lv_sub hl [2, 3, 5, 6] rfl) hf
      · rw [if_neg (fun h => h ((lg_cmp_eq _ _).mp c_4))] at hf
        refine lv_goto (tgt := 138) hx hb dX7_isSmall_51 (by decide) ?_
        exact b_X7_isSmall_138 qM  zM C0 kb_4 hkb_4 (fun x1_ x2_ x3_ x4_ => f_X7_isSmall_14 zM kb_4 fu x1_ x2_ x3_ x4_) ih x1 x2 x3 x4 ls (lv_sub hl [1, 2, 3, 4, 5] rfl) hf
def f_X7_isSmall_4 (zM : MdS) : Nat → Int32 → Int32 → Int32 → Option (Int32)
  | 0, _, _, _ => none
  | fu + 1, x1, x2, x3 => if (46 : Int32) ≤ x3 then if zb x2 = true then some x2 else none else f_X7_isSmall_14 zM (fun x1_ x2_ x3_ => f_X7_isSmall_4 zM fu x1_ x2_ x3_) fuel x1 x2 x3 (-12 : Int32)
set_option maxHeartbeats 4000000 in
set_option maxRecDepth 100000 in
theorem b_X7_isSmall_4 {p : Program} {l : Launch} {e : Env} {s : State} {m : MethodId} {args : Array Value} {below : List Frame} {meth : Method} {c : Code} {G : va_G} {cA : Nat → ClassId} (qM : Nat → Nat) (zM : MdS) (C0 : Amb p s m args meth c cX7_isSmall RX7 7 (some .boolean) G cA (fun _ : Nat => False) ((wMd cA qM zM))) {res : Int32} : ∀ (fu : Nat) (x1 : Int32) (x2 : Int32) (x3 : Int32) (ls : Array Slot), lv_has ls 7 [(0, .ref (qM 0)), (1, .int x1), (2, .int x2), (3, .int x3)] → f_X7_isSmall_4 zM fu x1 x2 x3 = some res → W p l e rm_X7_isSmall s m args below meth c s.heap [] 0 0 (MQ below (vp_Si (fun x => x = res)) args s 0 0 (fun _ : Nat => False)) (F0 m 4 ls []) := by
  obtain ⟨hx, hb, hr, hml, hown, hts, hlocks, hK, hR, hRA⟩ := id C0
  intro fu
  induction fu with
  | zero =>
    intro x1 x2 x3 ls hl hf
    rw [f_X7_isSmall_4] at hf
    cases hf
  | succ fu ih =>
    intro x1 x2 x3 ls hl hf
    rw [f_X7_isSmall_4] at hf
    refine lv_iload_n hx hb dX7_isSmall_4 rfl (lv_at hl 3 rfl) ?_
    refine lv_bipush (v := (46 : Int32)) hx hb dX7_isSmall_5 (by decide) ?_
    refine lv_icmp_ge (tgt := 150) hx hb dX7_isSmall_7 (by decide) (fun c_1 => ?_) (fun c_1 => ?_)
    · rw [if_pos (c_1)] at hf
      refine lv_iload_n hx hb dX7_isSmall_150 rfl (lv_at hl 2 rfl) ?_
      obtain ⟨hz_2, hf⟩ := oif hf
      cases hf
      exact W.zret hx hb hr (zb_n hz_2) (fun t ht hW => ⟨_, rfl, rfl, ht⟩) (fun q hq => by cases hq) dX7_isSmall_151 hlocks
    · rw [if_neg (c_1)] at hf
      refine lv_bipush (v := (-12 : Int32)) hx hb dX7_isSmall_10 (by decide) ?_
      refine lv_istore (lv' := [(4, .int (-12 : Int32)), (0, .ref (qM 0)), (1, .int x1), (2, .int x2), (3, .int x3)]) hx hb dX7_isSmall_12 hl (by decide) rfl (fun ls hl => ?_)
      exact b_X7_isSmall_14 qM  zM C0 (fun x1_ x2_ x3_ => f_X7_isSmall_4 zM fu x1_ x2_ x3_) ih fuel x1 x2 x3 (-12 : Int32) ls (lv_sub hl [1, 2, 3, 4, 0] rfl) hf
def f_X7_isSmall (zM : MdS) (a1 : Int32) : Option (Int32) := f_X7_isSmall_4 zM fuel a1 (1 : Int32) (0 : Int32)
set_option maxHeartbeats 4000000 in
set_option maxRecDepth 100000 in
theorem b_X7_isSmall_0 {p : Program} {l : Launch} {e : Env} {s : State} {m : MethodId} {args : Array Value} {below : List Frame} {meth : Method} {c : Code} {G : va_G} {cA : Nat → ClassId} (qM : Nat → Nat) (zM : MdS) (C0 : Amb p s m args meth c cX7_isSmall RX7 7 (some .boolean) G cA (fun _ : Nat => False) ((wMd cA qM zM))) {res : Int32} : ∀ (a1 : Int32) (ls : Array Slot), lv_has ls 7 [(0, .ref (qM 0)), (1, .int a1)] → f_X7_isSmall zM a1 = some res → W p l e rm_X7_isSmall s m args below meth c s.heap [] 0 0 (MQ below (vp_Si (fun x => x = res)) args s 0 0 (fun _ : Nat => False)) (F0 m 0 ls []) := by
  obtain ⟨hx, hb, hr, hml, hown, hts, hlocks, hK, hR, hRA⟩ := id C0
  intro a1 ls hl hf
  unfold f_X7_isSmall at hf
  refine lv_iconst (v := 1) hx hb dX7_isSmall_0 (by decide) ?_
  refine lv_istore_n (lv' := [(2, .int (1 : Int32)), (0, .ref (qM 0)), (1, .int a1)]) hx hb dX7_isSmall_1 rfl hl (by decide) rfl (fun ls hl => ?_)
  refine lv_iconst (v := 0) hx hb dX7_isSmall_2 (by decide) ?_
  refine lv_istore_n (lv' := [(3, .int (0 : Int32)), (2, .int (1 : Int32)), (0, .ref (qM 0)), (1, .int a1)]) hx hb dX7_isSmall_3 rfl hl (by decide) rfl (fun ls hl => ?_)
  exact b_X7_isSmall_4 qM  zM C0  fuel a1 (1 : Int32) (0 : Int32) ls (lv_sub hl [2, 3, 1, 0] rfl) hf

set_option maxRecDepth 100000 in
theorem m_X7_isSmall (l : Launch) (G : va_G) (cA : Nat → ClassId) (qM : Nat → Nat) (zM : MdS) (a1 : Int32) (res : Int32) (hf : f_X7_isSmall zM a1 = some res) : MRi l yX7_isSmall (.code yX7_isSmall cX7_isSmall 7 (some .boolean) :: wd) rm_X7_isSmall G cA [.ref (qM 0), .int a1] ((wMd cA qM zM)) res := by
  refine Met.ofW (cc := cX7_isSmall) (maxL := 7) (ret := (some .boolean)) (by decide) rfl ?_
  intro p e s m args below meth c s₁ B hml hv
  obtain ⟨rfl, hK, hR⟩ := hv
  have C0 : Amb p s m ([.ref (qM 0), .int a1] : List Value).toArray meth c cX7_isSmall RX7 7 (some .boolean) G cA (fun _ : Nat => False) ((wMd cA qM zM)) := ⟨B.exec, B.bytes, B.returns, hml, findClass_of_methodNamed B.named, fun w h => atoms_spec (ws := (.code yX7_isSmall cX7_isSmall 7 (some .boolean) :: wd)) B.pre w (List.mem_cons_of_mem _ h), B.notSynchronized, hK, hR, fun _ _ _ h => h⟩
  have hl := lv_entry ([.ref (qM 0), .int a1]) (n := 7) (Nat.le_of_ble_eq_true rfl)
  rw [lg_entry_eq]
  generalize (lg_sl ([.ref (qM 0), .int a1]) ++ List.replicate (7 - (lg_sl ([.ref (qM 0), .int a1])).length) Slot.unset).toArray = ls at hl ⊢
  have hl : lv_has ls 7 [(0, .ref (qM 0)), (1, .int a1)] := hl
  exact b_X7_isSmall_0 qM  zM C0 a1 ls hl hf
theorem cw_X7_isSmall {R : Room} {s : State} {args : Array Value} {own : String} {index : Nat} (ht : ∀ w ∈ wd, w.before args s = true) (hlink : Cond.methodLink own index yX7_isSmall ∈ wd) (hR : rm_X7_isSmall.frames + 1 ≤ R.frames ∧ 8 + (7 + 11) + rm_X7_isSmall.locals ≤ R.locals) : CallW R s args own RX7 index yX7_isSmall cX7_isSmall 7 (some .boolean) (.code yX7_isSmall cX7_isSmall 7 (some .boolean) :: wd) rm_X7_isSmall 0 0 1 := cwV9 1 ht wi_850 wi_849 wi_48 wi_60 hlink (by decide +kernel) rfl rfl hR
def rm_X7_refused : Room := { frames := 0, cells := 0, slots := 0, locals := 0 }
def f_X7_refused (zM : MdS) (a1 : Int32) : Option (Int32 × MdS) := if a1 ≤ 0 then some ((0 : Int32), (uM_refusal zM a1)) else some ((1 : Int32), (uM_refusal zM a1))
set_option maxHeartbeats 4000000 in
set_option maxRecDepth 100000 in
theorem b_X7_refused_0 {p : Program} {l : Launch} {e : Env} {s : State} {m : MethodId} {args : Array Value} {below : List Frame} {meth : Method} {c : Code} {G : va_G} {cA : Nat → ClassId} {W9 : va_W} (qM : Nat → Nat) (C0 : Amb p s m args meth c cX7_refused RX7 2 (some .boolean) G cA (adr W9) []) {res : Int32 × MdS} : ∀ (zM : MdS) (a1 : Int32) (H : Heap) (locs : List Loc) (ls : Array Slot), va_P G vwCl ((wMd cA qM zM)) H → va_D (adr W9) ((wMd cA qM zM)) → va_S (adr W9) s.heap H locs → lv_has ls 2 [(0, .ref (qM 0)), (1, .int a1)] → f_X7_refused zM a1 = some res → W p l e rm_X7_refused s m args below meth c H locs 0 0 (MQ below (qWi G W9 ((wMd cA qM res.2)) res.1) args s 0 0 (adr W9)) (F0 m 0 ls []) := by
  obtain ⟨hx, hb, hr, hml, hown, hts, hlocks, hK, hR, hRA⟩ := id C0
  intro zM a1 H locs ls hP hD hS hl hf
  unfold f_X7_refused at hf
  refine lv_aload_n hx hb dX7_refused_0 rfl (lv_at hl 0 rfl) ?_
  refine lv_iload_n hx hb dX7_refused_1 rfl (lv_at hl 1 rfl) ?_
  refine va_put (D := G) (ci := 5) (v := .int a1) (ty := .int) (C := RX7) (T := TX7) (N := 13) hx hb hts fin_X7 tyX7 tyX7_ok nmX7 hown hK.1 hP hD hS 0 rfl rfl 0 (by decide) (hts _ wi_671) (fun _ h9 => h9) rfl (by decide +kernel) rfl rfl (Nat.le_of_ble_eq_true rfl) dX7_refused_2 (fun H locs hP hD hS => ?_)
  have hP := sM_refusal_P hP
  have hD := sM_refusal_D hD
  refine lv_iload_n hx hb dX7_refused_5 rfl (lv_at hl 1 rfl) ?_
  refine lv_if_le (tgt := 13) hx hb dX7_refused_6 (by decide) (fun c_1 => ?_) (fun c_1 => ?_)
  · rw [if_pos (c_1)] at hf
    refine lv_iconst (v := 0) hx hb dX7_refused_13 (by decide) ?_
    cases hf
    exact W.zret hx hb hr (by decide) (fun t ht hW => ⟨⟨_, (), rfl, rfl, toT ht hP⟩, hS.F ht⟩) hS.2.2 dX7_refused_14 hlocks
  · rw [if_neg (c_1)] at hf
    refine lv_iconst (v := 1) hx hb dX7_refused_9 (by decide) ?_
    refine lv_goto (tgt := 14) hx hb dX7_refused_10 (by decide) ?_
    cases hf
    exact W.zret hx hb hr (by decide) (fun t ht hW => ⟨⟨_, (), rfl, rfl, toT ht hP⟩, hS.F ht⟩) hS.2.2 dX7_refused_14 hlocks

set_option maxRecDepth 100000 in
theorem m_X7_refused (l : Launch) (G : va_G) (cA : Nat → ClassId) (qM : Nat → Nat) (zM : MdS) (a1 : Int32) (res : Int32 × MdS) (hf : f_X7_refused zM a1 = some res) : MWi l yX7_refused (.code yX7_refused cX7_refused 2 (some .boolean) :: wd) rm_X7_refused G cA [.ref (qM 0), .int a1] ((wMd cA qM zM)) [] ((wMd cA qM res.2)) res.1 := by
  refine Met.ofW (cc := cX7_refused) (maxL := 2) (ret := (some .boolean)) (by decide) rfl ?_
  intro p e s m args below meth c s₁ B hml hv
  obtain ⟨rfl, hK, hP, hD0, hR, hRA⟩ := hv
  have C0 : Amb p s m ([.ref (qM 0), .int a1] : List Value).toArray meth c cX7_refused RX7 2 (some .boolean) G cA (adr ((wMd cA qM zM))) [] := ⟨B.exec, B.bytes, B.returns, hml, findClass_of_methodNamed B.named, fun w h => atoms_spec (ws := (.code yX7_refused cX7_refused 2 (some .boolean) :: wd)) B.pre w (List.mem_cons_of_mem _ h), B.notSynchronized, hK, hR, hRA⟩
  have hl := lv_entry ([.ref (qM 0), .int a1]) (n := 2) (Nat.le_of_ble_eq_true rfl)
  rw [lg_entry_eq]
  generalize (lg_sl ([.ref (qM 0), .int a1]) ++ List.replicate (2 - (lg_sl ([.ref (qM 0), .int a1])).length) Slot.unset).toArray = ls at hl ⊢
  have hl : lv_has ls 2 [(0, .ref (qM 0)), (1, .int a1)] := hl
  exact b_X7_refused_0 (W9 := ((wMd cA qM zM))) qM   C0 zM a1 s.heap [] ls hP (adr.self hD0) va_S.rf hl hf
theorem cw_X7_refused {R : Room} {s : State} {args : Array Value} {own : String} {index : Nat} (ht : ∀ w ∈ wd, w.before args s = true) (hlink : Cond.methodLink own index yX7_refused ∈ wd) (hR : rm_X7_refused.frames + 1 ≤ R.frames ∧ 8 + (2 + 11) + rm_X7_refused.locals ≤ R.locals) : CallW R s args own RX7 index yX7_refused cX7_refused 2 (some .boolean) (.code yX7_refused cX7_refused 2 (some .boolean) :: wd) rm_X7_refused 0 0 1 := cwV9 1 ht wi_726 wi_725 wi_29 wi_60 hlink (by decide +kernel) rfl rfl hR
def rm_X7_empty : Room := { frames := 0, cells := 0, slots := 0, locals := 0 }
def f_X7_empty_6  : Nat → MdS → Int32 → Int32 → Option (MdS)
  | 0, _, _, _ => none
  | fu + 1, zM, x1, x2 => if (((1150 : Int32) * x1) + (1150 : Int32)) ≤ x2 then some zM else if inb x2 nUD = true then if inb x2 nUD = true then f_X7_empty_6  fu (uM_down (uM_up zM (vp_updL (gM_up zM) x2.toNatClampNeg (0 : Int64))) (vp_updL (gM_down (uM_up zM (vp_updL (gM_up zM) x2.toNatClampNeg (0 : Int64)))) x2.toNatClampNeg (1 : Int64))) x1 (x2 + 1) else none else none
set_option maxHeartbeats 4000000 in
set_option maxRecDepth 100000 in
theorem b_X7_empty_6 {p : Program} {l : Launch} {e : Env} {s : State} {m : MethodId} {args : Array Value} {below : List Frame} {meth : Method} {c : Code} {G : va_G} {cA : Nat → ClassId} {W9 : va_W} (qM : Nat → Nat) (C0 : Amb p s m args meth c cX7_empty RX7 3 none G cA (adr W9) []) {res : MdS} : ∀ (fu : Nat) (zM : MdS) (x1 : Int32) (x2 : Int32) (H : Heap) (locs : List Loc) (ls : Array Slot), va_P G vwCl ((wMd cA qM zM)) H → va_D (adr W9) ((wMd cA qM zM)) → va_S (adr W9) s.heap H locs → lv_has ls 3 [(0, .ref (qM 0)), (1, .int x1), (2, .int x2)] → f_X7_empty_6 fu zM x1 x2 = some res → W p l e rm_X7_empty s m args below meth c H locs 0 0 (MQ below (qWv G W9 ((wMd cA qM res))) args s 0 0 (adr W9)) (F0 m 6 ls []) := by
  obtain ⟨hx, hb, hr, hml, hown, hts, hlocks, hK, hR, hRA⟩ := id C0
  intro fu
  induction fu with
  | zero =>
    intro zM x1 x2 H locs ls hP hD hS hl hf
    rw [f_X7_empty_6] at hf
    cases hf
  | succ fu ih =>
    intro zM x1 x2 H locs ls hP hD hS hl hf
    rw [f_X7_empty_6] at hf
    refine lv_iload_n hx hb dX7_empty_6 rfl (lv_at hl 2 rfl) ?_
    refine lv_sipush (v := (1150 : Int32)) hx hb dX7_empty_7 (by decide) ?_
    refine lv_iload_n hx hb dX7_empty_10 rfl (lv_at hl 1 rfl) ?_
    refine lv_imul hx hb dX7_empty_11 ?_
    refine lv_sipush (v := (1150 : Int32)) hx hb dX7_empty_12 (by decide) ?_
    refine lv_iadd hx hb dX7_empty_15 ?_
    refine lv_icmp_ge (tgt := 39) hx hb dX7_empty_16 (by decide) (fun c_1 => ?_) (fun c_1 => ?_)
    · rw [if_pos (c_1)] at hf
      cases hf
      exact W.vret hx hb hr (fun t ht hW => ⟨⟨(), rfl, trivial, toT ht hP⟩, hS.F ht⟩) hS.2.2 dX7_empty_39 hlocks
    · rw [if_neg (c_1)] at hf
      refine lv_aload_n hx hb dX7_empty_19 rfl (lv_at hl 0 rfl) ?_
      refine va_get (D := G) (ci := 5) (v := .ref (qM 3)) (C := RX7) (T := TX7) (N := 13) hx hb hts fin_X7 hown hK.1 hP 0 rfl rfl 6 (by decide) (hts _ wi_677) (fun _ h9 => h9) rfl dX7_empty_20 ?_
      refine lv_iload_n hx hb dX7_empty_23 rfl (lv_at hl 2 rfl) ?_
      refine lv_lconst (v := (0 : Int64)) hx hb dX7_empty_24 (by decide) ?_
      obtain ⟨hi_2, hf⟩ := oif hf
      refine va_last hx hb hK.1 hP hD hS 3 1 rfl rfl (inb_in hi_2) dX7_empty_25 (fun H locs hP hD hS => ?_)
      have hP := sM_up_P hP
      have hD := sM_up_D hD
      refine lv_aload_n hx hb dX7_empty_26 rfl (lv_at hl 0 rfl) ?_
      refine va_get (D := G) (ci := 5) (v := .ref (qM 4)) (C := RX7) (T := TX7) (N := 13) hx hb hts fin_X7 hown hK.1 hP 0 rfl rfl 7 (by decide) (hts _ wi_678) (fun _ h9 => h9) rfl dX7_empty_27 ?_
      refine lv_iload_n hx hb dX7_empty_30 rfl (lv_at hl 2 rfl) ?_
      refine lv_lconst (v := (1 : Int64)) hx hb dX7_empty_31 (by decide) ?_
      obtain ⟨hi_3, hf⟩ := oif hf
      refine va_last hx hb hK.1 hP hD hS 4 1 rfl rfl (inb_in hi_3) dX7_empty_32 (fun H locs hP hD hS => ?_)
      have hP := sM_down_P hP
      have hD := sM_down_D hD
      refine lv_iinc (v := (x2 + 1)) (lv' := [(2, .int (x2 + 1)), (0, .ref (qM 0)), (1, .int x1)]) hx hb dX7_empty_33 hl (k := 2) rfl rfl (by decide) rfl (fun ls hl => ?_)
      refine lv_goto (tgt := 6) hx hb dX7_empty_36 (by decide) ?_
      exact ih (uM_down (uM_up zM (vp_updL (gM_up zM) x2.toNatClampNeg (0 : Int64))) (vp_updL (gM_down (uM_up zM (vp_updL (gM_up zM) x2.toNatClampNeg (0 : Int64)))) x2.toNatClampNeg (1 : Int64))) x1 (x2 + 1) H locs ls hP hD hS (lv_sub hl [1, 2, 0] rfl) hf
def f_X7_empty (zM : MdS) (a1 : Int32) : Option (MdS) := (some (((1150 : Int32) * a1))).bind fun y_1 => f_X7_empty_6 fuel zM a1 y_1
set_option maxHeartbeats 4000000 in
set_option maxRecDepth 100000 in
theorem b_X7_empty_0 {p : Program} {l : Launch} {e : Env} {s : State} {m : MethodId} {args : Array Value} {below : List Frame} {meth : Method} {c : Code} {G : va_G} {cA : Nat → ClassId} {W9 : va_W} (qM : Nat → Nat) (C0 : Amb p s m args meth c cX7_empty RX7 3 none G cA (adr W9) []) {res : MdS} : ∀ (zM : MdS) (a1 : Int32) (H : Heap) (locs : List Loc) (ls : Array Slot), va_P G vwCl ((wMd cA qM zM)) H → va_D (adr W9) ((wMd cA qM zM)) → va_S (adr W9) s.heap H locs → lv_has ls 3 [(0, .ref (qM 0)), (1, .int a1)] → f_X7_empty zM a1 = some res → W p l e rm_X7_empty s m args below meth c H locs 0 0 (MQ below (qWv G W9 ((wMd cA qM res))) args s 0 0 (adr W9)) (F0 m 0 ls []) := by
  obtain ⟨hx, hb, hr, hml, hown, hts, hlocks, hK, hR, hRA⟩ := id C0
  intro zM a1 H locs ls hP hD hS hl hf
  unfold f_X7_empty at hf
  refine lv_sipush (v := (1150 : Int32)) hx hb dX7_empty_0 (by decide) ?_
  refine lv_iload_n hx hb dX7_empty_3 rfl (lv_at hl 1 rfl) ?_
  refine lv_imul hx hb dX7_empty_4 ?_
  obtain ⟨y_1, hq, hf⟩ := obd hf
  have hy_1 : ((1150 : Int32) * a1) = y_1 := Option.some.inj hq
  rw [hy_1]
  refine lv_istore_n (lv' := [(2, .int y_1), (0, .ref (qM 0)), (1, .int a1)]) hx hb dX7_empty_5 rfl hl (by decide) rfl (fun ls hl => ?_)
  exact b_X7_empty_6 qM   C0  fuel zM a1 y_1 H locs ls hP hD hS (lv_sub hl [1, 2, 0] rfl) hf

set_option maxRecDepth 100000 in
theorem m_X7_empty (l : Launch) (G : va_G) (cA : Nat → ClassId) (qM : Nat → Nat) (zM : MdS) (a1 : Int32) (res : MdS) (hf : f_X7_empty zM a1 = some res) : MWv l yX7_empty (.code yX7_empty cX7_empty 3 none :: wd) rm_X7_empty G cA [.ref (qM 0), .int a1] ((wMd cA qM zM)) [] ((wMd cA qM res)) := by
  refine Met.ofW (cc := cX7_empty) (maxL := 3) (ret := none) (by decide) rfl ?_
  intro p e s m args below meth c s₁ B hml hv
  obtain ⟨rfl, hK, hP, hD0, hR, hRA⟩ := hv
  have C0 : Amb p s m ([.ref (qM 0), .int a1] : List Value).toArray meth c cX7_empty RX7 3 none G cA (adr ((wMd cA qM zM))) [] := ⟨B.exec, B.bytes, B.returns, hml, findClass_of_methodNamed B.named, fun w h => atoms_spec (ws := (.code yX7_empty cX7_empty 3 none :: wd)) B.pre w (List.mem_cons_of_mem _ h), B.notSynchronized, hK, hR, hRA⟩
  have hl := lv_entry ([.ref (qM 0), .int a1]) (n := 3) (Nat.le_of_ble_eq_true rfl)
  rw [lg_entry_eq]
  generalize (lg_sl ([.ref (qM 0), .int a1]) ++ List.replicate (3 - (lg_sl ([.ref (qM 0), .int a1])).length) Slot.unset).toArray = ls at hl ⊢
  have hl : lv_has ls 3 [(0, .ref (qM 0)), (1, .int a1)] := hl
  exact b_X7_empty_0 (W9 := ((wMd cA qM zM))) qM   C0 zM a1 s.heap [] ls hP (adr.self hD0) va_S.rf hl hf
theorem cw_X7_empty {R : Room} {s : State} {args : Array Value} {own : String} {index : Nat} (ht : ∀ w ∈ wd, w.before args s = true) (hlink : Cond.methodLink own index yX7_empty ∈ wd) (hR : rm_X7_empty.frames + 1 ≤ R.frames ∧ 8 + (3 + 11) + rm_X7_empty.locals ≤ R.locals) : CallW R s args own RX7 index yX7_empty cX7_empty 3 none (.code yX7_empty cX7_empty 3 none :: wd) rm_X7_empty 0 0 1 := cwV9 1 ht wi_741 wi_740 wi_30 wi_60 hlink (by decide +kernel) rfl rfl hR
def rm_X7_addTerm : Room := { frames := 1, cells := 0, slots := 0, locals := 29 }
def f_X7_addTerm_125 (zM : MdS) (x1 : Int32) (x4 : Int32) (x7 : Int64) (x9 : Int64) (x11 : Int32) (x12 : Int32) : Option (MdS) := (f_X7_functionOf x11 x12).bind fun r_1 => (some ((((((1150 : Int32) * x1) + ((25 : Int32) * r_1)) + x4) + (12 : Int32)))).bind fun y_2 => if inb y_2 nUD = true then if inb y_2 nUD = true then (some ((((gM_up zM y_2.toNatClampNeg) * x7) + (x9 * (gM_down zM y_2.toNatClampNeg))))).bind fun y_5 => if inb y_2 nUD = true then (some (((gM_down zM y_2.toNatClampNeg) * x7))).bind fun y_7 => (f_X7_gcd y_5 y_7).bind fun r_8 => if ¬ r_8 = 0 then if inb y_2 nUD = true then if ¬ r_8 = 0 then if inb y_2 nUD = true then some (uM_down (uM_up zM (vp_updL (gM_up zM) y_2.toNatClampNeg (y_5 / r_8))) (vp_updL (gM_down (uM_up zM (vp_updL (gM_up zM) y_2.toNatClampNeg (y_5 / r_8)))) y_2.toNatClampNeg (y_7 / r_8))) else none else none else none else none else none else none else none
set_option maxHeartbeats 4000000 in
set_option maxRecDepth 100000 in
theorem b_X7_addTerm_125 {p : Program} {l : Launch} {e : Env} {s : State} {m : MethodId} {args : Array Value} {below : List Frame} {meth : Method} {c : Code} {G : va_G} {cA : Nat → ClassId} {W9 : va_W} (qM : Nat → Nat) (C0 : Amb p s m args meth c cX7_addTerm RX7 20 none G cA (adr W9) []) {res : MdS} : ∀ (zM : MdS) (x1 : Int32) (x4 : Int32) (x7 : Int64) (x9 : Int64) (x11 : Int32) (x12 : Int32) (H : Heap) (locs : List Loc) (ls : Array Slot), va_P G vwCl ((wMd cA qM zM)) H → va_D (adr W9) ((wMd cA qM zM)) → va_S (adr W9) s.heap H locs → lv_has ls 20 [(0, .ref (qM 0)), (1, .int x1), (4, .int x4), (7, .long x7), (9, .long x9), (11, .int x11), (12, .int x12)] → f_X7_addTerm_125 zM x1 x4 x7 x9 x11 x12 = some res → W p l e rm_X7_addTerm s m args below meth c H locs 0 0 (MQ below (qWv G W9 ((wMd cA qM res))) args s 0 0 (adr W9)) (F0 m 125 ls []) := by
  obtain ⟨hx, hb, hr, hml, hown, hts, hlocks, hK, hR, hRA⟩ := id C0
  intro zM x1 x4 x7 x9 x11 x12 H locs ls hP hD hS hl hf
  unfold f_X7_addTerm_125 at hf
  refine lv_sipush (v := (1150 : Int32)) hx hb dX7_addTerm_125 (by decide) ?_
  refine lv_iload_n hx hb dX7_addTerm_128 rfl (lv_at hl 1 rfl) ?_
  refine lv_imul hx hb dX7_addTerm_129 ?_
  refine lv_bipush (v := (25 : Int32)) hx hb dX7_addTerm_130 (by decide) ?_
  refine lv_iload hx hb dX7_addTerm_132 (lv_at hl 5 rfl) ?_
  refine lv_iload hx hb dX7_addTerm_134 (lv_at hl 6 rfl) ?_
  obtain ⟨r_1, hr_1, hf⟩ := obd hf
  refine cRiS (As := [.int x11, .int x12]) (rest := [.int (25 : Int32), .int ((1150 : Int32) * x1)]) ⟨hx, hb, hml, hown, hts⟩ (m_X7_functionOf l G cA x11 x12 r_1 hr_1) (cw_X7_functionOf hts wi_776 ⟨Nat.le_of_ble_eq_true rfl, Nat.le_of_ble_eq_true rfl⟩) hK va_Pnil rfl hl.1 rfl (Nat.le_of_ble_eq_true rfl) dX7_addTerm_136 ⟨Nat.zero_le _, Nat.zero_le _⟩ ?_
  refine lv_imul hx hb dX7_addTerm_139 ?_
  refine lv_iadd hx hb dX7_addTerm_140 ?_
  refine lv_iload hx hb dX7_addTerm_141 (lv_at hl 2 rfl) ?_
  refine lv_iadd hx hb dX7_addTerm_143 ?_
  refine lv_bipush (v := (12 : Int32)) hx hb dX7_addTerm_144 (by decide) ?_
  refine lv_iadd hx hb dX7_addTerm_146 ?_
  obtain ⟨y_2, hq, hf⟩ := obd hf
  have hy_2 : (((((1150 : Int32) * x1) + ((25 : Int32) * r_1)) + x4) + (12 : Int32)) = y_2 := Option.some.inj hq
  rw [hy_2]
  refine lv_istore (lv' := [(13, .int y_2), (0, .ref (qM 0)), (1, .int x1), (4, .int x4), (7, .long x7), (9, .long x9), (11, .int x11), (12, .int x12)]) hx hb dX7_addTerm_147 hl (by decide) rfl (fun ls hl => ?_)
  refine lv_aload_n hx hb dX7_addTerm_149 rfl (lv_at hl 1 rfl) ?_
  refine va_get (D := G) (ci := 5) (v := .ref (qM 3)) (C := RX7) (T := TX7) (N := 13) hx hb hts fin_X7 hown hK.1 hP 0 rfl rfl 6 (by decide) (hts _ wi_677) (fun _ h9 => h9) rfl dX7_addTerm_150 ?_
  refine lv_iload hx hb dX7_addTerm_153 (lv_at hl 0 rfl) ?_
  obtain ⟨hi_3, hf⟩ := oif hf
  refine va_lald hx hb hK.1 hP 3 1 rfl rfl (inb_in hi_3) dX7_addTerm_155 ?_
  refine lv_lload hx hb dX7_addTerm_156 (lv_at hl 4 rfl) ?_
  refine lv_lmul hx hb dX7_addTerm_158 ?_
  refine lv_lload hx hb dX7_addTerm_159 (lv_at hl 5 rfl) ?_
  refine lv_aload_n hx hb dX7_addTerm_161 rfl (lv_at hl 1 rfl) ?_
  refine va_get (D := G) (ci := 5) (v := .ref (qM 4)) (C := RX7) (T := TX7) (N := 13) hx hb hts fin_X7 hown hK.1 hP 0 rfl rfl 7 (by decide) (hts _ wi_678) (fun _ h9 => h9) rfl dX7_addTerm_162 ?_
  refine lv_iload hx hb dX7_addTerm_165 (lv_at hl 0 rfl) ?_
  obtain ⟨hi_4, hf⟩ := oif hf
  refine va_lald hx hb hK.1 hP 4 1 rfl rfl (inb_in hi_4) dX7_addTerm_167 ?_
  refine lv_lmul hx hb dX7_addTerm_168 ?_
  refine lv_ladd hx hb dX7_addTerm_169 ?_
  obtain ⟨y_5, hq, hf⟩ := obd hf
  have hy_5 : (((gM_up zM y_2.toNatClampNeg) * x7) + (x9 * (gM_down zM y_2.toNatClampNeg))) = y_5 := Option.some.inj hq
  rw [hy_5]
  refine lv_lstore (lv' := [(14, .long y_5), (13, .int y_2), (0, .ref (qM 0)), (1, .int x1), (4, .int x4), (7, .long x7), (9, .long x9), (11, .int x11), (12, .int x12)]) hx hb dX7_addTerm_170 hl (by decide) rfl (fun ls hl => ?_)
  refine lv_aload_n hx hb dX7_addTerm_172 rfl (lv_at hl 2 rfl) ?_
  refine va_get (D := G) (ci := 5) (v := .ref (qM 4)) (C := RX7) (T := TX7) (N := 13) hx hb hts fin_X7 hown hK.1 hP 0 rfl rfl 7 (by decide) (hts _ wi_678) (fun _ h9 => h9) rfl dX7_addTerm_173 ?_
  refine lv_iload hx hb dX7_addTerm_176 (lv_at hl 1 rfl) ?_
  obtain ⟨hi_6, hf⟩ := oif hf
  refine va_lald hx hb hK.1 hP 4 1 rfl rfl (inb_in hi_6) dX7_addTerm_178 ?_
  refine lv_lload hx hb dX7_addTerm_179 (lv_at hl 5 rfl) ?_
  refine lv_lmul hx hb dX7_addTerm_181 ?_
  obtain ⟨y_7, hq, hf⟩ := obd hf
  have hy_7 : ((gM_down zM y_2.toNatClampNeg) * x7) = y_7 := Option.some.inj hq
  rw [hy_7]
  refine lv_lstore (lv' := [(16, .long y_7), (14, .long y_5), (13, .int y_2), (0, .ref (qM 0)), (1, .int x1), (4, .int x4), (7, .long x7), (9, .long x9), (11, .int x11), (12, .int x12)]) hx hb dX7_addTerm_182 hl (by decide) rfl (fun ls hl => ?_)
  refine lv_lload hx hb dX7_addTerm_184 (lv_at hl 1 rfl) ?_
  refine lv_lload hx hb dX7_addTerm_186 (lv_at hl 0 rfl) ?_
  obtain ⟨r_8, hr_8, hf⟩ := obd hf
  refine cRlS (As := [.long y_5, .long y_7]) (rest := []) ⟨hx, hb, hml, hown, hts⟩ (m_X7_gcd l G cA y_5 y_7 r_8 hr_8) (cw_X7_gcd hts wi_769 ⟨Nat.le_of_ble_eq_true rfl, Nat.le_of_ble_eq_true rfl⟩) hK va_Pnil rfl hl.1 rfl (Nat.le_of_ble_eq_true rfl) dX7_addTerm_188 ⟨Nat.zero_le _, Nat.zero_le _⟩ ?_
  refine lv_lstore (lv' := [(18, .long r_8), (16, .long y_7), (14, .long y_5), (13, .int y_2), (0, .ref (qM 0)), (1, .int x1), (4, .int x4), (7, .long x7), (9, .long x9), (11, .int x11), (12, .int x12)]) hx hb dX7_addTerm_191 hl (by decide) rfl (fun ls hl => ?_)
  refine lv_aload_n hx hb dX7_addTerm_193 rfl (lv_at hl 4 rfl) ?_
  refine va_get (D := G) (ci := 5) (v := .ref (qM 3)) (C := RX7) (T := TX7) (N := 13) hx hb hts fin_X7 hown hK.1 hP 0 rfl rfl 6 (by decide) (hts _ wi_677) (fun _ h9 => h9) rfl dX7_addTerm_194 ?_
  refine lv_iload hx hb dX7_addTerm_197 (lv_at hl 3 rfl) ?_
  refine lv_lload hx hb dX7_addTerm_199 (lv_at hl 2 rfl) ?_
  refine lv_lload hx hb dX7_addTerm_201 (lv_at hl 0 rfl) ?_
  obtain ⟨hn_9, hf⟩ := oif hf
  refine lv_ldiv hx hb dX7_addTerm_203 hn_9 ?_
  obtain ⟨hi_10, hf⟩ := oif hf
  refine va_last hx hb hK.1 hP hD hS 3 1 rfl rfl (inb_in hi_10) dX7_addTerm_204 (fun H locs hP hD hS => ?_)
  have hP := sM_up_P hP
  have hD := sM_up_D hD
  refine lv_aload_n hx hb dX7_addTerm_205 rfl (lv_at hl 4 rfl) ?_
  refine va_get (D := G) (ci := 5) (v := .ref (qM 4)) (C := RX7) (T := TX7) (N := 13) hx hb hts fin_X7 hown hK.1 hP 0 rfl rfl 7 (by decide) (hts _ wi_678) (fun _ h9 => h9) rfl dX7_addTerm_206 ?_
  refine lv_iload hx hb dX7_addTerm_209 (lv_at hl 3 rfl) ?_
  refine lv_lload hx hb dX7_addTerm_211 (lv_at hl 1 rfl) ?_
  refine lv_lload hx hb dX7_addTerm_213 (lv_at hl 0 rfl) ?_
  obtain ⟨hn_11, hf⟩ := oif hf
  refine lv_ldiv hx hb dX7_addTerm_215 hn_11 ?_
  obtain ⟨hi_12, hf⟩ := oif hf
  refine va_last hx hb hK.1 hP hD hS 4 1 rfl rfl (inb_in hi_12) dX7_addTerm_216 (fun H locs hP hD hS => ?_)
  have hP := sM_down_P hP
  have hD := sM_down_D hD
  cases hf
  exact W.vret hx hb hr (fun t ht hW => ⟨⟨(), rfl, trivial, toT ht hP⟩, hS.F ht⟩) hS.2.2 dX7_addTerm_217 hlocks
def f_X7_addTerm_119 (zM : MdS) : Option (MdS) := some (uM_isFull zM (1 : Int32))
set_option maxHeartbeats 4000000 in
set_option maxRecDepth 100000 in
theorem b_X7_addTerm_119 {p : Program} {l : Launch} {e : Env} {s : State} {m : MethodId} {args : Array Value} {below : List Frame} {meth : Method} {c : Code} {G : va_G} {cA : Nat → ClassId} {W9 : va_W} (qM : Nat → Nat) (C0 : Amb p s m args meth c cX7_addTerm RX7 20 none G cA (adr W9) []) {res : MdS} : ∀ (zM : MdS) (H : Heap) (locs : List Loc) (ls : Array Slot), va_P G vwCl ((wMd cA qM zM)) H → va_D (adr W9) ((wMd cA qM zM)) → va_S (adr W9) s.heap H locs → lv_has ls 20 [(0, .ref (qM 0))] → f_X7_addTerm_119 zM = some res → W p l e rm_X7_addTerm s m args below meth c H locs 0 0 (MQ below (qWv G W9 ((wMd cA qM res))) args s 0 0 (adr W9)) (F0 m 119 ls []) := by
  obtain ⟨hx, hb, hr, hml, hown, hts, hlocks, hK, hR, hRA⟩ := id C0
  intro zM H locs ls hP hD hS hl hf
  unfold f_X7_addTerm_119 at hf
  refine lv_aload_n hx hb dX7_addTerm_119 rfl (lv_at hl 0 rfl) ?_
  refine lv_iconst (v := 1) hx hb dX7_addTerm_120 (by decide) ?_
  refine va_put (D := G) (ci := 5) (v := .int (1 : Int32)) (ty := .boolean) (C := RX7) (T := TX7) (N := 13) hx hb hts fin_X7 tyX7 tyX7_ok nmX7 hown hK.1 hP hD hS 0 rfl rfl 8 (by decide) (hts _ wi_679) (fun _ h9 => h9) rfl (by decide +kernel) (by decide) (by decide) (Nat.le_of_ble_eq_true rfl) dX7_addTerm_121 (fun H locs hP hD hS => ?_)
  have hP := sM_isFull_P hP
  have hD := sM_isFull_D hD
  cases hf
  exact W.vret hx hb hr (fun t ht hW => ⟨⟨(), rfl, trivial, toT ht hP⟩, hS.F ht⟩) hS.2.2 dX7_addTerm_124 hlocks
def f_X7_addTerm_99 (zM : MdS) (x1 : Int32) (x4 : Int32) (x7 : Int64) (x9 : Int64) (x11 : Int32) (x12 : Int32) : Option (MdS) := if x11 ≤ (1 : Int32) then f_X7_addTerm_125  zM x1 x4 x7 x9 x11 x12 else if (9 : Int32) < x12 then f_X7_addTerm_119  zM else if (-9 : Int32) ≤ x12 then f_X7_addTerm_125  zM x1 x4 x7 x9 x11 x12 else f_X7_addTerm_119  zM
set_option maxHeartbeats 4000000 in
set_option maxRecDepth 100000 in
theorem b_X7_addTerm_99 {p : Program} {l : Launch} {e : Env} {s : State} {m : MethodId} {args : Array Value} {below : List Frame} {meth : Method} {c : Code} {G : va_G} {cA : Nat → ClassId} {W9 : va_W} (qM : Nat → Nat) (C0 : Amb p s m args meth c cX7_addTerm RX7 20 none G cA (adr W9) []) {res : MdS} : ∀ (zM : MdS) (x1 : Int32) (x4 : Int32) (x7 : Int64) (x9 : Int64) (x11 : Int32) (x12 : Int32) (H : Heap) (locs : List Loc) (ls : Array Slot), va_P G vwCl ((wMd cA qM zM)) H → va_D (adr W9) ((wMd cA qM zM)) → va_S (adr W9) s.heap H locs → lv_has ls 20 [(0, .ref (qM 0)), (1, .int x1), (4, .int x4), (7, .long x7), (9, .long x9), (11, .int x11), (12, .int x12)] → f_X7_addTerm_99 zM x1 x4 x7 x9 x11 x12 = some res → W p l e rm_X7_addTerm s m args below meth c H locs 0 0 (MQ below (qWv G W9 ((wMd cA qM res))) args s 0 0 (adr W9)) (F0 m 99 ls []) := by
  obtain ⟨hx, hb, hr, hml, hown, hts, hlocks, hK, hR, hRA⟩ := id C0
  intro zM x1 x4 x7 x9 x11 x12 H locs ls hP hD hS hl hf
  unfold f_X7_addTerm_99 at hf
  refine lv_iload hx hb dX7_addTerm_99 (lv_at hl 5 rfl) ?_
  refine lv_iconst (v := 1) hx hb dX7_addTerm_101 (by decide) ?_
  refine lv_icmp_le (tgt := 125) hx hb dX7_addTerm_102 (by decide) (fun c_1 => ?_) (fun c_1 => ?_)
  · rw [if_pos (c_1)] at hf
    exact b_X7_addTerm_125 qM   C0  zM x1 x4 x7 x9 x11 x12 H locs ls hP hD hS (lv_sub hl [0, 1, 2, 3, 4, 5, 6] rfl) hf
  · rw [if_neg (c_1)] at hf
    refine lv_iload hx hb dX7_addTerm_105 (lv_at hl 6 rfl) ?_
    refine lv_bipush (v := (9 : Int32)) hx hb dX7_addTerm_107 (by decide) ?_
    refine lv_icmp_gt (tgt := 119) hx hb dX7_addTerm_109 (by decide) (fun c_2 => ?_) (fun c_2 => ?_)
    · rw [if_pos (c_2)] at hf
      exact b_X7_addTerm_119 qM   C0  zM H locs ls hP hD hS (lv_sub hl [0] rfl) hf
    · rw [if_neg (c_2)] at hf
      refine lv_iload hx hb dX7_addTerm_112 (lv_at hl 6 rfl) ?_
      refine lv_bipush (v := (-9 : Int32)) hx hb dX7_addTerm_114 (by decide) ?_
      refine lv_icmp_ge (tgt := 125) hx hb dX7_addTerm_116 (by decide) (fun c_3 => ?_) (fun c_3 => ?_)
      · rw [if_pos (c_3)] at hf
        exact b_X7_addTerm_125 qM   C0  zM x1 x4 x7 x9 x11 x12 H locs ls hP hD hS (lv_sub hl [0, 1, 2, 3, 4, 5, 6] rfl) hf
      · rw [if_neg (c_3)] at hf
        exact b_X7_addTerm_119 qM   C0  zM H locs ls hP hD hS (lv_sub hl [0] rfl) hf
def f_X7_addTerm_64 (zM : MdS) (x1 : Int32) (x4 : Int32) (x7 : Int64) (x9 : Int64) (x11 : Int32) (x12 : Int32) : Option (MdS) := if ¬ x9 = (0 : Int64) then if x4 < (-12 : Int32) then f_X7_addTerm_119  zM else if (12 : Int32) < x4 then f_X7_addTerm_119  zM else if ¬ x11 = (1 : Int32) then f_X7_addTerm_99  zM x1 x4 x7 x9 x11 x12 else if (9 : Int32) < x12 then f_X7_addTerm_119  zM else f_X7_addTerm_99  zM x1 x4 x7 x9 x11 x12 else some zM
set_option maxHeartbeats 4000000 in
set_option maxRecDepth 100000 in
theorem b_X7_addTerm_64 {p : Program} {l : Launch} {e : Env} {s : State} {m : MethodId} {args : Array Value} {below : List Frame} {meth : Method} {c : Code} {G : va_G} {cA : Nat → ClassId} {W9 : va_W} (qM : Nat → Nat) (C0 : Amb p s m args meth c cX7_addTerm RX7 20 none G cA (adr W9) []) {res : MdS} : ∀ (zM : MdS) (x1 : Int32) (x4 : Int32) (x7 : Int64) (x9 : Int64) (x11 : Int32) (x12 : Int32) (H : Heap) (locs : List Loc) (ls : Array Slot), va_P G vwCl ((wMd cA qM zM)) H → va_D (adr W9) ((wMd cA qM zM)) → va_S (adr W9) s.heap H locs → lv_has ls 20 [(0, .ref (qM 0)), (1, .int x1), (4, .int x4), (7, .long x7), (9, .long x9), (11, .int x11), (12, .int x12)] → f_X7_addTerm_64 zM x1 x4 x7 x9 x11 x12 = some res → W p l e rm_X7_addTerm s m args below meth c H locs 0 0 (MQ below (qWv G W9 ((wMd cA qM res))) args s 0 0 (adr W9)) (F0 m 64 ls []) := by
  obtain ⟨hx, hb, hr, hml, hown, hts, hlocks, hK, hR, hRA⟩ := id C0
  intro zM x1 x4 x7 x9 x11 x12 H locs ls hP hD hS hl hf
  unfold f_X7_addTerm_64 at hf
  refine lv_lload hx hb dX7_addTerm_64 (lv_at hl 4 rfl) ?_
  refine lv_lconst (v := (0 : Int64)) hx hb dX7_addTerm_66 (by decide) ?_
  refine W.lcmp hx hb dX7_addTerm_67 ?_
  refine lv_if_ne (tgt := 72) hx hb dX7_addTerm_68 (by decide) (fun c_1 => ?_) (fun c_1 => ?_)
  · rw [if_pos (fun h => c_1 ((lg_cmp_eq _ _).mpr h))] at hf
    refine lv_iload hx hb dX7_addTerm_72 (lv_at hl 2 rfl) ?_
    refine lv_bipush (v := (-12 : Int32)) hx hb dX7_addTerm_74 (by decide) ?_
    refine lv_icmp_lt (tgt := 119) hx hb dX7_addTerm_76 (by decide) (fun c_2 => ?_) (fun c_2 => ?_)
    · rw [if_pos (c_2)] at hf
      exact b_X7_addTerm_119 qM   C0  zM H locs ls hP hD hS (lv_sub hl [0] rfl) hf
    · rw [if_neg (c_2)] at hf
      refine lv_iload hx hb dX7_addTerm_79 (lv_at hl 2 rfl) ?_
      refine lv_bipush (v := (12 : Int32)) hx hb dX7_addTerm_81 (by decide) ?_
      refine lv_icmp_gt (tgt := 119) hx hb dX7_addTerm_83 (by decide) (fun c_3 => ?_) (fun c_3 => ?_)
      · rw [if_pos (c_3)] at hf
        exact b_X7_addTerm_119 qM   C0  zM H locs ls hP hD hS (lv_sub hl [0] rfl) hf
      · rw [if_neg (c_3)] at hf
        refine lv_iload hx hb dX7_addTerm_86 (lv_at hl 5 rfl) ?_
        refine lv_iconst (v := 1) hx hb dX7_addTerm_88 (by decide) ?_
        refine lv_icmp_ne (tgt := 99) hx hb dX7_addTerm_89 (by decide) (fun c_4 => ?_) (fun c_4 => ?_)
        · rw [if_pos (c_4)] at hf
          exact b_X7_addTerm_99 qM   C0  zM x1 x4 x7 x9 x11 x12 H locs ls hP hD hS (lv_sub hl [0, 1, 2, 3, 4, 5, 6] rfl) hf
        · rw [if_neg (not_not_intro c_4)] at hf
          refine lv_iload hx hb dX7_addTerm_92 (lv_at hl 6 rfl) ?_
          refine lv_bipush (v := (9 : Int32)) hx hb dX7_addTerm_94 (by decide) ?_
          refine lv_icmp_gt (tgt := 119) hx hb dX7_addTerm_96 (by decide) (fun c_5 => ?_) (fun c_5 => ?_)
          · rw [if_pos (c_5)] at hf
            exact b_X7_addTerm_119 qM   C0  zM H locs ls hP hD hS (lv_sub hl [0] rfl) hf
          · rw [if_neg (c_5)] at hf
            exact b_X7_addTerm_99 qM   C0  zM x1 x4 x7 x9 x11 x12 H locs ls hP hD hS (lv_sub hl [0, 1, 2, 3, 4, 5, 6] rfl) hf
  · rw [if_neg (fun h => h ((lg_cmp_eq _ _).mp c_1))] at hf
    cases hf
    exact W.vret hx hb hr (fun t ht hW => ⟨⟨(), rfl, trivial, toT ht hP⟩, hS.F ht⟩) hS.2.2 dX7_addTerm_71 hlocks
def f_X7_addTerm_56 (zM : MdS) (x1 : Int32) (x4 : Int32) (x7 : Int64) (v0 : Int64) : Option (MdS) := f_X7_addTerm_64  zM x1 x4 x7 v0 (0 : Int32) (0 : Int32)
set_option maxHeartbeats 4000000 in
set_option maxRecDepth 100000 in
theorem b_X7_addTerm_56 {p : Program} {l : Launch} {e : Env} {s : State} {m : MethodId} {args : Array Value} {below : List Frame} {meth : Method} {c : Code} {G : va_G} {cA : Nat → ClassId} {W9 : va_W} (qM : Nat → Nat) (C0 : Amb p s m args meth c cX7_addTerm RX7 20 none G cA (adr W9) []) {res : MdS} : ∀ (zM : MdS) (x1 : Int32) (x4 : Int32) (x7 : Int64) (v0 : Int64) (H : Heap) (locs : List Loc) (ls : Array Slot), va_P G vwCl ((wMd cA qM zM)) H → va_D (adr W9) ((wMd cA qM zM)) → va_S (adr W9) s.heap H locs → lv_has ls 20 [(0, .ref (qM 0)), (1, .int x1), (4, .int x4), (7, .long x7)] → f_X7_addTerm_56 zM x1 x4 x7 v0 = some res → W p l e rm_X7_addTerm s m args below meth c H locs 0 0 (MQ below (qWv G W9 ((wMd cA qM res))) args s 0 0 (adr W9)) (F0 m 56 ls [.long v0]) := by
  obtain ⟨hx, hb, hr, hml, hown, hts, hlocks, hK, hR, hRA⟩ := id C0
  intro zM x1 x4 x7 v0 H locs ls hP hD hS hl hf
  unfold f_X7_addTerm_56 at hf
  refine lv_lstore (lv' := [(9, .long v0), (0, .ref (qM 0)), (1, .int x1), (4, .int x4), (7, .long x7)]) hx hb dX7_addTerm_56 hl (by decide) rfl (fun ls hl => ?_)
  refine lv_iconst (v := 0) hx hb dX7_addTerm_58 (by decide) ?_
  refine lv_istore (lv' := [(11, .int (0 : Int32)), (9, .long v0), (0, .ref (qM 0)), (1, .int x1), (4, .int x4), (7, .long x7)]) hx hb dX7_addTerm_59 hl (by decide) rfl (fun ls hl => ?_)
  refine lv_iconst (v := 0) hx hb dX7_addTerm_61 (by decide) ?_
  refine lv_istore (lv' := [(12, .int (0 : Int32)), (11, .int (0 : Int32)), (9, .long v0), (0, .ref (qM 0)), (1, .int x1), (4, .int x4), (7, .long x7)]) hx hb dX7_addTerm_62 hl (by decide) rfl (fun ls hl => ?_)
  exact b_X7_addTerm_64 qM   C0  zM x1 x4 x7 v0 (0 : Int32) (0 : Int32) H locs ls hP hD hS (lv_sub hl [3, 4, 5, 6, 2, 1, 0] rfl) hf
def f_X7_addTerm_37 (zM : MdS) (x1 : Int32) (x2 : Int32) (x3 : Int32) (x4 : Int32) (x7 : Int64) (x9 : Int64) (x11 : Int32) (x12 : Int32) : Option (MdS) := if x2 ≤ 0 then f_X7_addTerm_64  zM x1 x4 x7 x9 x11 x12 else if ¬ x3 = 0 then f_X7_addTerm_64  zM x1 x4 x7 x9 x11 x12 else if ¬ x2 = (3 : Int32) then f_X7_addTerm_56  zM x1 x4 x7 x9 else f_X7_addTerm_56  zM x1 x4 x7 (0 : Int64)
set_option maxHeartbeats 4000000 in
set_option maxRecDepth 100000 in
theorem b_X7_addTerm_37 {p : Program} {l : Launch} {e : Env} {s : State} {m : MethodId} {args : Array Value} {below : List Frame} {meth : Method} {c : Code} {G : va_G} {cA : Nat → ClassId} {W9 : va_W} (qM : Nat → Nat) (C0 : Amb p s m args meth c cX7_addTerm RX7 20 none G cA (adr W9) []) {res : MdS} : ∀ (zM : MdS) (x1 : Int32) (x2 : Int32) (x3 : Int32) (x4 : Int32) (x7 : Int64) (x9 : Int64) (x11 : Int32) (x12 : Int32) (H : Heap) (locs : List Loc) (ls : Array Slot), va_P G vwCl ((wMd cA qM zM)) H → va_D (adr W9) ((wMd cA qM zM)) → va_S (adr W9) s.heap H locs → lv_has ls 20 [(0, .ref (qM 0)), (1, .int x1), (2, .int x2), (3, .int x3), (4, .int x4), (7, .long x7), (9, .long x9), (11, .int x11), (12, .int x12)] → f_X7_addTerm_37 zM x1 x2 x3 x4 x7 x9 x11 x12 = some res → W p l e rm_X7_addTerm s m args below meth c H locs 0 0 (MQ below (qWv G W9 ((wMd cA qM res))) args s 0 0 (adr W9)) (F0 m 37 ls []) := by
  obtain ⟨hx, hb, hr, hml, hown, hts, hlocks, hK, hR, hRA⟩ := id C0
  intro zM x1 x2 x3 x4 x7 x9 x11 x12 H locs ls hP hD hS hl hf
  unfold f_X7_addTerm_37 at hf
  refine lv_iload_n hx hb dX7_addTerm_37 rfl (lv_at hl 2 rfl) ?_
  refine lv_if_le (tgt := 64) hx hb dX7_addTerm_38 (by decide) (fun c_1 => ?_) (fun c_1 => ?_)
  · rw [if_pos (c_1)] at hf
    exact b_X7_addTerm_64 qM   C0  zM x1 x4 x7 x9 x11 x12 H locs ls hP hD hS (lv_sub hl [0, 1, 4, 5, 6, 7, 8] rfl) hf
  · rw [if_neg (c_1)] at hf
    refine lv_iload_n hx hb dX7_addTerm_41 rfl (lv_at hl 3 rfl) ?_
    refine lv_if_ne (tgt := 64) hx hb dX7_addTerm_42 (by decide) (fun c_2 => ?_) (fun c_2 => ?_)
    · rw [if_pos (c_2)] at hf
      exact b_X7_addTerm_64 qM   C0  zM x1 x4 x7 x9 x11 x12 H locs ls hP hD hS (lv_sub hl [0, 1, 4, 5, 6, 7, 8] rfl) hf
    · rw [if_neg (not_not_intro c_2)] at hf
      refine lv_iload_n hx hb dX7_addTerm_45 rfl (lv_at hl 2 rfl) ?_
      refine lv_iconst (v := 3) hx hb dX7_addTerm_46 (by decide) ?_
      refine lv_icmp_ne (tgt := 54) hx hb dX7_addTerm_47 (by decide) (fun c_3 => ?_) (fun c_3 => ?_)
      · rw [if_pos (c_3)] at hf
        refine lv_lload hx hb dX7_addTerm_54 (lv_at hl 6 rfl) ?_
        exact b_X7_addTerm_56 qM   C0  zM x1 x4 x7 x9 H locs ls hP hD hS (lv_sub hl [0, 1, 4, 5] rfl) hf
      · rw [if_neg (not_not_intro c_3)] at hf
        refine lv_lconst (v := (0 : Int64)) hx hb dX7_addTerm_50 (by decide) ?_
        refine lv_goto (tgt := 56) hx hb dX7_addTerm_51 (by decide) ?_
        exact b_X7_addTerm_56 qM   C0  zM x1 x4 x7 (0 : Int64) H locs ls hP hD hS (lv_sub hl [0, 1, 4, 5] rfl) hf
def f_X7_addTerm_24 (zM : MdS) (x1 : Int32) (x2 : Int32) (x3 : Int32) (x4 : Int32) (x7 : Int64) (x9 : Int64) (x11 : Int32) (x12 : Int32) : Option (MdS) := if x2 ≤ (2 : Int32) then f_X7_addTerm_37  zM x1 x2 x3 x4 x7 x9 x11 x12 else if 0 ≤ x3 then f_X7_addTerm_37  zM x1 x2 x3 x4 x7 x9 x11 x12 else (some ((-x3))).bind fun y_3 => f_X7_addTerm_37  zM x1 x2 x3 x4 x7 x9 x11 y_3
set_option maxHeartbeats 4000000 in
set_option maxRecDepth 100000 in
theorem b_X7_addTerm_24 {p : Program} {l : Launch} {e : Env} {s : State} {m : MethodId} {args : Array Value} {below : List Frame} {meth : Method} {c : Code} {G : va_G} {cA : Nat → ClassId} {W9 : va_W} (qM : Nat → Nat) (C0 : Amb p s m args meth c cX7_addTerm RX7 20 none G cA (adr W9) []) {res : MdS} : ∀ (zM : MdS) (x1 : Int32) (x2 : Int32) (x3 : Int32) (x4 : Int32) (x7 : Int64) (x9 : Int64) (x11 : Int32) (x12 : Int32) (H : Heap) (locs : List Loc) (ls : Array Slot), va_P G vwCl ((wMd cA qM zM)) H → va_D (adr W9) ((wMd cA qM zM)) → va_S (adr W9) s.heap H locs → lv_has ls 20 [(0, .ref (qM 0)), (1, .int x1), (2, .int x2), (3, .int x3), (4, .int x4), (7, .long x7), (9, .long x9), (11, .int x11), (12, .int x12)] → f_X7_addTerm_24 zM x1 x2 x3 x4 x7 x9 x11 x12 = some res → W p l e rm_X7_addTerm s m args below meth c H locs 0 0 (MQ below (qWv G W9 ((wMd cA qM res))) args s 0 0 (adr W9)) (F0 m 24 ls []) := by
  obtain ⟨hx, hb, hr, hml, hown, hts, hlocks, hK, hR, hRA⟩ := id C0
  intro zM x1 x2 x3 x4 x7 x9 x11 x12 H locs ls hP hD hS hl hf
  unfold f_X7_addTerm_24 at hf
  refine lv_iload_n hx hb dX7_addTerm_24 rfl (lv_at hl 2 rfl) ?_
  refine lv_iconst (v := 2) hx hb dX7_addTerm_25 (by decide) ?_
  refine lv_icmp_le (tgt := 37) hx hb dX7_addTerm_26 (by decide) (fun c_1 => ?_) (fun c_1 => ?_)
  · rw [if_pos (c_1)] at hf
    exact b_X7_addTerm_37 qM   C0  zM x1 x2 x3 x4 x7 x9 x11 x12 H locs ls hP hD hS (lv_sub hl [0, 1, 2, 3, 4, 5, 6, 7, 8] rfl) hf
  · rw [if_neg (c_1)] at hf
    refine lv_iload_n hx hb dX7_addTerm_29 rfl (lv_at hl 3 rfl) ?_
    refine lv_if_ge (tgt := 37) hx hb dX7_addTerm_30 (by decide) (fun c_2 => ?_) (fun c_2 => ?_)
    · rw [if_pos (c_2)] at hf
      exact b_X7_addTerm_37 qM   C0  zM x1 x2 x3 x4 x7 x9 x11 x12 H locs ls hP hD hS (lv_sub hl [0, 1, 2, 3, 4, 5, 6, 7, 8] rfl) hf
    · rw [if_neg (c_2)] at hf
      refine lv_iload_n hx hb dX7_addTerm_33 rfl (lv_at hl 3 rfl) ?_
      refine lv_ineg hx hb dX7_addTerm_34 ?_
      obtain ⟨y_3, hq, hf⟩ := obd hf
      have hy_3 : (-x3) = y_3 := Option.some.inj hq
      rw [hy_3]
      refine lv_istore (lv' := [(12, .int y_3), (0, .ref (qM 0)), (1, .int x1), (2, .int x2), (3, .int x3), (4, .int x4), (7, .long x7), (9, .long x9), (11, .int x11)]) hx hb dX7_addTerm_35 hl (by decide) rfl (fun ls hl => ?_)
      exact b_X7_addTerm_37 qM   C0  zM x1 x2 x3 x4 x7 x9 x11 y_3 H locs ls hP hD hS (lv_sub hl [1, 2, 3, 4, 5, 6, 7, 8, 0] rfl) hf
def f_X7_addTerm (zM : MdS) (a1 : Int32) (a2 : Int32) (a3 : Int32) (a4 : Int32) (a5 : Int64) (a7 : Int64) : Option (MdS) := if ¬ a2 = (3 : Int32) then f_X7_addTerm_24  zM a1 a2 a3 a4 a7 a5 a2 a3 else if 0 ≤ a3 then f_X7_addTerm_24  zM a1 a2 a3 a4 a7 a5 a2 a3 else (some ((-a5))).bind fun y_3 => f_X7_addTerm_24  zM a1 a2 a3 a4 a7 y_3 a2 a3
set_option maxHeartbeats 4000000 in
set_option maxRecDepth 100000 in
theorem b_X7_addTerm_0 {p : Program} {l : Launch} {e : Env} {s : State} {m : MethodId} {args : Array Value} {below : List Frame} {meth : Method} {c : Code} {G : va_G} {cA : Nat → ClassId} {W9 : va_W} (qM : Nat → Nat) (C0 : Amb p s m args meth c cX7_addTerm RX7 20 none G cA (adr W9) []) {res : MdS} : ∀ (zM : MdS) (a1 : Int32) (a2 : Int32) (a3 : Int32) (a4 : Int32) (a5 : Int64) (a7 : Int64) (H : Heap) (locs : List Loc) (ls : Array Slot), va_P G vwCl ((wMd cA qM zM)) H → va_D (adr W9) ((wMd cA qM zM)) → va_S (adr W9) s.heap H locs → lv_has ls 20 [(0, .ref (qM 0)), (1, .int a1), (2, .int a2), (3, .int a3), (4, .int a4), (5, .long a5), (7, .long a7)] → f_X7_addTerm zM a1 a2 a3 a4 a5 a7 = some res → W p l e rm_X7_addTerm s m args below meth c H locs 0 0 (MQ below (qWv G W9 ((wMd cA qM res))) args s 0 0 (adr W9)) (F0 m 0 ls []) := by
  obtain ⟨hx, hb, hr, hml, hown, hts, hlocks, hK, hR, hRA⟩ := id C0
  intro zM a1 a2 a3 a4 a5 a7 H locs ls hP hD hS hl hf
  unfold f_X7_addTerm at hf
  refine lv_lload hx hb dX7_addTerm_0 (lv_at hl 5 rfl) ?_
  refine lv_lstore (lv' := [(9, .long a5), (0, .ref (qM 0)), (1, .int a1), (2, .int a2), (3, .int a3), (4, .int a4), (5, .long a5), (7, .long a7)]) hx hb dX7_addTerm_2 hl (by decide) rfl (fun ls hl => ?_)
  refine lv_iload_n hx hb dX7_addTerm_4 rfl (lv_at hl 3 rfl) ?_
  refine lv_istore (lv' := [(11, .int a2), (9, .long a5), (0, .ref (qM 0)), (1, .int a1), (2, .int a2), (3, .int a3), (4, .int a4), (5, .long a5), (7, .long a7)]) hx hb dX7_addTerm_5 hl (by decide) rfl (fun ls hl => ?_)
  refine lv_iload_n hx hb dX7_addTerm_7 rfl (lv_at hl 5 rfl) ?_
  refine lv_istore (lv' := [(12, .int a3), (11, .int a2), (9, .long a5), (0, .ref (qM 0)), (1, .int a1), (2, .int a2), (3, .int a3), (4, .int a4), (5, .long a5), (7, .long a7)]) hx hb dX7_addTerm_8 hl (by decide) rfl (fun ls hl => ?_)
  refine lv_iload_n hx hb dX7_addTerm_10 rfl (lv_at hl 5 rfl) ?_
  refine lv_iconst (v := 3) hx hb dX7_addTerm_11 (by decide) ?_
  refine lv_icmp_ne (tgt := 24) hx hb dX7_addTerm_12 (by decide) (fun c_1 => ?_) (fun c_1 => ?_)
  · rw [if_pos (c_1)] at hf
    exact b_X7_addTerm_24 qM   C0  zM a1 a2 a3 a4 a7 a5 a2 a3 H locs ls hP hD hS (lv_sub hl [3, 4, 5, 6, 7, 9, 2, 1, 0] rfl) hf
  · rw [if_neg (not_not_intro c_1)] at hf
    refine lv_iload_n hx hb dX7_addTerm_15 rfl (lv_at hl 6 rfl) ?_
    refine lv_if_ge (tgt := 24) hx hb dX7_addTerm_16 (by decide) (fun c_2 => ?_) (fun c_2 => ?_)
    · rw [if_pos (c_2)] at hf
      exact b_X7_addTerm_24 qM   C0  zM a1 a2 a3 a4 a7 a5 a2 a3 H locs ls hP hD hS (lv_sub hl [3, 4, 5, 6, 7, 9, 2, 1, 0] rfl) hf
    · rw [if_neg (c_2)] at hf
      refine lv_lload hx hb dX7_addTerm_19 (lv_at hl 2 rfl) ?_
      refine lv_lneg hx hb dX7_addTerm_21 ?_
      obtain ⟨y_3, hq, hf⟩ := obd hf
      have hy_3 : (-a5) = y_3 := Option.some.inj hq
      rw [hy_3]
      refine lv_lstore (lv' := [(9, .long y_3), (12, .int a3), (11, .int a2), (0, .ref (qM 0)), (1, .int a1), (2, .int a2), (3, .int a3), (4, .int a4), (5, .long a5), (7, .long a7)]) hx hb dX7_addTerm_22 hl (by decide) rfl (fun ls hl => ?_)
      exact b_X7_addTerm_24 qM   C0  zM a1 a2 a3 a4 a7 y_3 a2 a3 H locs ls hP hD hS (lv_sub hl [3, 4, 5, 6, 7, 9, 0, 2, 1] rfl) hf

set_option maxRecDepth 100000 in
theorem m_X7_addTerm (l : Launch) (G : va_G) (cA : Nat → ClassId) (qM : Nat → Nat) (zM : MdS) (a1 : Int32) (a2 : Int32) (a3 : Int32) (a4 : Int32) (a5 : Int64) (a7 : Int64) (res : MdS) (hf : f_X7_addTerm zM a1 a2 a3 a4 a5 a7 = some res) : MWv l yX7_addTerm (.code yX7_addTerm cX7_addTerm 20 none :: wd) rm_X7_addTerm G cA [.ref (qM 0), .int a1, .int a2, .int a3, .int a4, .long a5, .long a7] ((wMd cA qM zM)) [] ((wMd cA qM res)) := by
  refine Met.ofW (cc := cX7_addTerm) (maxL := 20) (ret := none) (by decide) rfl ?_
  intro p e s m args below meth c s₁ B hml hv
  obtain ⟨rfl, hK, hP, hD0, hR, hRA⟩ := hv
  have C0 : Amb p s m ([.ref (qM 0), .int a1, .int a2, .int a3, .int a4, .long a5, .long a7] : List Value).toArray meth c cX7_addTerm RX7 20 none G cA (adr ((wMd cA qM zM))) [] := ⟨B.exec, B.bytes, B.returns, hml, findClass_of_methodNamed B.named, fun w h => atoms_spec (ws := (.code yX7_addTerm cX7_addTerm 20 none :: wd)) B.pre w (List.mem_cons_of_mem _ h), B.notSynchronized, hK, hR, hRA⟩
  have hl := lv_entry ([.ref (qM 0), .int a1, .int a2, .int a3, .int a4, .long a5, .long a7]) (n := 20) (Nat.le_of_ble_eq_true rfl)
  rw [lg_entry_eq]
  generalize (lg_sl ([.ref (qM 0), .int a1, .int a2, .int a3, .int a4, .long a5, .long a7]) ++ List.replicate (20 - (lg_sl ([.ref (qM 0), .int a1, .int a2, .int a3, .int a4, .long a5, .long a7])).length) Slot.unset).toArray = ls at hl ⊢
  have hl : lv_has ls 20 [(0, .ref (qM 0)), (1, .int a1), (2, .int a2), (3, .int a3), (4, .int a4), (5, .long a5), (7, .long a7)] := hl
  exact b_X7_addTerm_0 (W9 := ((wMd cA qM zM))) qM   C0 zM a1 a2 a3 a4 a5 a7 s.heap [] ls hP (adr.self hD0) va_S.rf hl hf
theorem cw_X7_addTerm {R : Room} {s : State} {args : Array Value} {own : String} {index : Nat} (ht : ∀ w ∈ wd, w.before args s = true) (hlink : Cond.methodLink own index yX7_addTerm ∈ wd) (hR : rm_X7_addTerm.frames + 1 ≤ R.frames ∧ 8 + (20 + 11) + rm_X7_addTerm.locals ≤ R.locals) : CallW R s args own RX7 index yX7_addTerm cX7_addTerm 20 none (.code yX7_addTerm cX7_addTerm 20 none :: wd) rm_X7_addTerm 0 0 6 := cwV9 6 ht wi_775 wi_774 wi_37 wi_60 hlink (by decide +kernel) rfl rfl hR
