def rm_X1_charactersIn : Room := { frames := 0, cells := 0, slots := 0, locals := 0 }
def f_X1_charactersIn_22 (kb_5 : Int32 → Int32 → Int32 → Option (Int32)) (x0 : Int32) (x1 : Int32) (x2 : Int32) : Option (Int32) := kb_5 x0 x1 (x2 + (-8))
set_option maxHeartbeats 4000000 in
set_option maxRecDepth 100000 in
theorem b_X1_charactersIn_22 {p : Program} {l : Launch} {e : Env} {s : State} {m : MethodId} {args : Array Value} {below : List Frame} {meth : Method} {c : Code} {G : va_G} {cA : Nat → ClassId} (C0 : Amb p s m args meth c cX1_charactersIn RX1 3 (some .int) G cA (fun _ : Nat => False) []) {res : Int32} (kb_5 : Int32 → Int32 → Int32 → Option (Int32)) (hkb_5 : ∀ (x0 : Int32) (x1 : Int32) (x2 : Int32) (ls : Array Slot), lv_has ls 3 [(0, .int x0), (1, .int x1), (2, .int x2)] → kb_5 x0 x1 x2 = some res → W p l e rm_X1_charactersIn s m args below meth c s.heap [] 0 0 (MQ below (vp_Si (fun x => x = res)) args s 0 0 (fun _ : Nat => False)) (F0 m 5 ls [])) : ∀ (x0 : Int32) (x1 : Int32) (x2 : Int32) (ls : Array Slot), lv_has ls 3 [(0, .int x0), (1, .int x1), (2, .int x2)] → f_X1_charactersIn_22 kb_5 x0 x1 x2 = some res → W p l e rm_X1_charactersIn s m args below meth c s.heap [] 0 0 (MQ below (vp_Si (fun x => x = res)) args s 0 0 (fun _ : Nat => False)) (F0 m 22 ls []) := by
  obtain ⟨hx, hb, hr, hml, hown, hts, hlocks, hK, hR, hRA⟩ := id C0
  intro x0 x1 x2 ls hl hf
  unfold f_X1_charactersIn_22 at hf
  refine lv_iinc (v := (x2 + (-8))) (lv' := [(2, .int (x2 + (-8))), (0, .int x0), (1, .int x1)]) hx hb dX1_charactersIn_22 hl (k := 2) rfl rfl (by decide) rfl (fun ls hl => ?_)
  refine lv_goto (tgt := 5) hx hb dX1_charactersIn_25 (by decide) ?_
  exact hkb_5 x0 x1 (x2 + (-8)) ls (lv_sub hl [1, 2, 0] rfl) hf
def f_X1_charactersIn_5  : Nat → Int32 → Int32 → Int32 → Option (Int32)
  | 0, _, _, _ => none
  | fu + 1, x0, x1, x2 => if x2 < 0 then some x1 else if (((x0.toUInt32 >>> (x2.toUInt32 &&& Int32.toUInt32 31)).toInt32) &&& (255 : Int32)) = 0 then f_X1_charactersIn_22 (fun x0_ x1_ x2_ => f_X1_charactersIn_5  fu x0_ x1_ x2_) x0 x1 x2 else f_X1_charactersIn_22 (fun x0_ x1_ x2_ => f_X1_charactersIn_5  fu x0_ x1_ x2_) x0 (x1 + 1) x2
set_option maxHeartbeats 4000000 in
set_option maxRecDepth 100000 in
theorem b_X1_charactersIn_5 {p : Program} {l : Launch} {e : Env} {s : State} {m : MethodId} {args : Array Value} {below : List Frame} {meth : Method} {c : Code} {G : va_G} {cA : Nat → ClassId} (C0 : Amb p s m args meth c cX1_charactersIn RX1 3 (some .int) G cA (fun _ : Nat => False) []) {res : Int32} : ∀ (fu : Nat) (x0 : Int32) (x1 : Int32) (x2 : Int32) (ls : Array Slot), lv_has ls 3 [(0, .int x0), (1, .int x1), (2, .int x2)] → f_X1_charactersIn_5 fu x0 x1 x2 = some res → W p l e rm_X1_charactersIn s m args below meth c s.heap [] 0 0 (MQ below (vp_Si (fun x => x = res)) args s 0 0 (fun _ : Nat => False)) (F0 m 5 ls []) := by
  obtain ⟨hx, hb, hr, hml, hown, hts, hlocks, hK, hR, hRA⟩ := id C0
  intro fu
  induction fu with
  | zero =>
    intro x0 x1 x2 ls hl hf
    rw [f_X1_charactersIn_5] at hf
    cases hf
  | succ fu ih =>
    intro x0 x1 x2 ls hl hf
    rw [f_X1_charactersIn_5] at hf
    refine lv_iload_n hx hb dX1_charactersIn_5 rfl (lv_at hl 2 rfl) ?_
    refine lv_if_lt (tgt := 28) hx hb dX1_charactersIn_6 (by decide) (fun c_1 => ?_) (fun c_1 => ?_)
    · rw [if_pos (c_1)] at hf
      refine lv_iload_n hx hb dX1_charactersIn_28 rfl (lv_at hl 1 rfl) ?_
      cases hf
      exact W.iret hx hb hr (fun t ht hW => ⟨_, rfl, rfl, ht⟩) (fun q hq => by cases hq) dX1_charactersIn_29 hlocks
    · rw [if_neg (c_1)] at hf
      refine lv_iload_n hx hb dX1_charactersIn_9 rfl (lv_at hl 0 rfl) ?_
      refine lv_iload_n hx hb dX1_charactersIn_10 rfl (lv_at hl 2 rfl) ?_
      refine lv_iushr hx hb dX1_charactersIn_11 rfl ?_
      refine lv_sipush (v := (255 : Int32)) hx hb dX1_charactersIn_12 (by decide) ?_
      refine lv_iand hx hb dX1_charactersIn_15 ?_
      refine lv_if_eq (tgt := 22) hx hb dX1_charactersIn_16 (by decide) (fun c_2 => ?_) (fun c_2 => ?_)
      · rw [if_pos (c_2)] at hf
        exact b_X1_charactersIn_22    C0 (fun x0_ x1_ x2_ => f_X1_charactersIn_5  fu x0_ x1_ x2_) ih x0 x1 x2 ls (lv_sub hl [0, 1, 2] rfl) hf
      · rw [if_neg (c_2)] at hf
        refine lv_iinc (v := (x1 + 1)) (lv' := [(1, .int (x1 + 1)), (0, .int x0), (2, .int x2)]) hx hb dX1_charactersIn_19 hl (k := 1) rfl rfl (by decide) rfl (fun ls hl => ?_)
        exact b_X1_charactersIn_22    C0 (fun x0_ x1_ x2_ => f_X1_charactersIn_5  fu x0_ x1_ x2_) ih x0 (x1 + 1) x2 ls (lv_sub hl [1, 0, 2] rfl) hf
def f_X1_charactersIn (a0 : Int32) : Option (Int32) := f_X1_charactersIn_5 fuel a0 (0 : Int32) (24 : Int32)
set_option maxHeartbeats 4000000 in
set_option maxRecDepth 100000 in
theorem b_X1_charactersIn_0 {p : Program} {l : Launch} {e : Env} {s : State} {m : MethodId} {args : Array Value} {below : List Frame} {meth : Method} {c : Code} {G : va_G} {cA : Nat → ClassId} (C0 : Amb p s m args meth c cX1_charactersIn RX1 3 (some .int) G cA (fun _ : Nat => False) []) {res : Int32} : ∀ (a0 : Int32) (ls : Array Slot), lv_has ls 3 [(0, .int a0)] → f_X1_charactersIn a0 = some res → W p l e rm_X1_charactersIn s m args below meth c s.heap [] 0 0 (MQ below (vp_Si (fun x => x = res)) args s 0 0 (fun _ : Nat => False)) (F0 m 0 ls []) := by
  obtain ⟨hx, hb, hr, hml, hown, hts, hlocks, hK, hR, hRA⟩ := id C0
  intro a0 ls hl hf
  unfold f_X1_charactersIn at hf
  refine lv_iconst (v := 0) hx hb dX1_charactersIn_0 (by decide) ?_
  refine lv_istore_n (lv' := [(1, .int (0 : Int32)), (0, .int a0)]) hx hb dX1_charactersIn_1 rfl hl (by decide) rfl (fun ls hl => ?_)
  refine lv_bipush (v := (24 : Int32)) hx hb dX1_charactersIn_2 (by decide) ?_
  refine lv_istore_n (lv' := [(2, .int (24 : Int32)), (1, .int (0 : Int32)), (0, .int a0)]) hx hb dX1_charactersIn_4 rfl hl (by decide) rfl (fun ls hl => ?_)
  exact b_X1_charactersIn_5    C0  fuel a0 (0 : Int32) (24 : Int32) ls (lv_sub hl [2, 1, 0] rfl) hf

set_option maxRecDepth 100000 in
theorem m_X1_charactersIn (l : Launch) (G : va_G) (cA : Nat → ClassId) (a0 : Int32) (res : Int32) (hf : f_X1_charactersIn a0 = some res) : MRi l yX1_charactersIn (.code yX1_charactersIn cX1_charactersIn 3 (some .int) :: wd) rm_X1_charactersIn G cA [.int a0] [] res := by
  refine Met.ofW (cc := cX1_charactersIn) (maxL := 3) (ret := (some .int)) (by decide) rfl ?_
  intro p e s m args below meth c s₁ B hml hv
  obtain ⟨rfl, hK, hR⟩ := hv
  have C0 : Amb p s m ([.int a0] : List Value).toArray meth c cX1_charactersIn RX1 3 (some .int) G cA (fun _ : Nat => False) [] := ⟨B.exec, B.bytes, B.returns, hml, findClass_of_methodNamed B.named, fun w h => atoms_spec (ws := (.code yX1_charactersIn cX1_charactersIn 3 (some .int) :: wd)) B.pre w (List.mem_cons_of_mem _ h), B.notSynchronized, hK, hR, fun _ _ _ h => h⟩
  have hl := lv_entry ([.int a0]) (n := 3) (Nat.le_of_ble_eq_true rfl)
  rw [lg_entry_eq]
  generalize (lg_sl ([.int a0]) ++ List.replicate (3 - (lg_sl ([.int a0])).length) Slot.unset).toArray = ls at hl ⊢
  have hl : lv_has ls 3 [(0, .int a0)] := hl
  exact b_X1_charactersIn_0    C0 a0 ls hl hf
theorem cw_X1_charactersIn {R : Room} {s : State} {args : Array Value} {own : String} {index : Nat} (ht : ∀ w ∈ wd, w.before args s = true) (hlink : Cond.methodLink own index yX1_charactersIn ∈ wd) (hR : rm_X1_charactersIn.frames + 1 ≤ R.frames ∧ 8 + (3 + 11) + rm_X1_charactersIn.locals ≤ R.locals) : CallB R s args own index yX1_charactersIn cX1_charactersIn 3 (some .int) (.code yX1_charactersIn cX1_charactersIn 3 (some .int) :: wd) rm_X1_charactersIn 0 0 1 ∧ (Cond.static yX1_charactersIn).before args s = true := cwS9 1 ht wi_228 wi_227 wi_57 hlink (by decide +kernel) rfl rfl hR
def rm_X1_append : Room := { frames := 0, cells := 0, slots := 0, locals := 0 }
def f_X1_append_49 (kb_3 : LineS → Int32 → Int32 → Option (LineS)) (zL : LineS) (x1 : Int32) (x2 : Int32) : Option (LineS) := kb_3 zL x1 (x2 + (-8))
set_option maxHeartbeats 4000000 in
set_option maxRecDepth 100000 in
theorem b_X1_append_49 {p : Program} {l : Launch} {e : Env} {s : State} {m : MethodId} {args : Array Value} {below : List Frame} {meth : Method} {c : Code} {G : va_G} {cA : Nat → ClassId} {W9 : va_W} (qL : Nat → Nat) (C0 : Amb p s m args meth c cX1_append RX1 4 none G cA (adr W9) []) {res : LineS} (kb_3 : LineS → Int32 → Int32 → Option (LineS)) (hkb_3 : ∀ (zL : LineS) (x1 : Int32) (x2 : Int32) (H : Heap) (locs : List Loc) (ls : Array Slot), va_P G vwCl ((wLine cA qL zL)) H → va_D (adr W9) ((wLine cA qL zL)) → va_S (adr W9) s.heap H locs → lv_has ls 4 [(0, .ref (qL 0)), (1, .int x1), (2, .int x2)] → kb_3 zL x1 x2 = some res → W p l e rm_X1_append s m args below meth c H locs 0 0 (MQ below (qWv G W9 ((wLine cA qL res))) args s 0 0 (adr W9)) (F0 m 3 ls [])) : ∀ (zL : LineS) (x1 : Int32) (x2 : Int32) (H : Heap) (locs : List Loc) (ls : Array Slot), va_P G vwCl ((wLine cA qL zL)) H → va_D (adr W9) ((wLine cA qL zL)) → va_S (adr W9) s.heap H locs → lv_has ls 4 [(0, .ref (qL 0)), (1, .int x1), (2, .int x2)] → f_X1_append_49 kb_3 zL x1 x2 = some res → W p l e rm_X1_append s m args below meth c H locs 0 0 (MQ below (qWv G W9 ((wLine cA qL res))) args s 0 0 (adr W9)) (F0 m 49 ls []) := by
  obtain ⟨hx, hb, hr, hml, hown, hts, hlocks, hK, hR, hRA⟩ := id C0
  intro zL x1 x2 H locs ls hP hD hS hl hf
  unfold f_X1_append_49 at hf
  refine lv_iinc (v := (x2 + (-8))) (lv' := [(2, .int (x2 + (-8))), (0, .ref (qL 0)), (1, .int x1)]) hx hb dX1_append_49 hl (k := 2) rfl rfl (by decide) rfl (fun ls hl => ?_)
  refine lv_goto (tgt := 3) hx hb dX1_append_52 (by decide) ?_
  exact hkb_3 zL x1 (x2 + (-8)) H locs ls hP hD hS (lv_sub hl [1, 2, 0] rfl) hf
def f_X1_append_3  : Nat → LineS → Int32 → Int32 → Option (LineS)
  | 0, _, _, _ => none
  | fu + 1, zL, x1, x2 => if x2 < 0 then some zL else (some ((((x1.toUInt32 >>> (x2.toUInt32 &&& Int32.toUInt32 31)).toInt32) &&& (255 : Int32)))).bind fun y_2 => if y_2 = 0 then f_X1_append_49 (fun zL_ x1_ x2_ => f_X1_append_3  fu zL_ x1_ x2_) zL x1 x2 else if (100 : Int32) ≤ (gL_len zL) then f_X1_append_49 (fun zL_ x1_ x2_ => f_X1_append_3  fu zL_ x1_ x2_) zL x1 x2 else if inb (gL_len zL) 100 = true then f_X1_append_49 (fun zL_ x1_ x2_ => f_X1_append_3  fu zL_ x1_ x2_) (uL_len (uL_ch zL (upd (gL_ch zL) (gL_len zL).toNatClampNeg (vp_nar .char (((y_2).toUInt32 % 65536).toInt32)))) ((gL_len (uL_ch zL (upd (gL_ch zL) (gL_len zL).toNatClampNeg (vp_nar .char (((y_2).toUInt32 % 65536).toInt32))))) + (1 : Int32))) x1 x2 else none
set_option maxHeartbeats 4000000 in
set_option maxRecDepth 100000 in
theorem b_X1_append_3 {p : Program} {l : Launch} {e : Env} {s : State} {m : MethodId} {args : Array Value} {below : List Frame} {meth : Method} {c : Code} {G : va_G} {cA : Nat → ClassId} {W9 : va_W} (qL : Nat → Nat) (C0 : Amb p s m args meth c cX1_append RX1 4 none G cA (adr W9) []) {res : LineS} : ∀ (fu : Nat) (zL : LineS) (x1 : Int32) (x2 : Int32) (H : Heap) (locs : List Loc) (ls : Array Slot), va_P G vwCl ((wLine cA qL zL)) H → va_D (adr W9) ((wLine cA qL zL)) → va_S (adr W9) s.heap H locs → lv_has ls 4 [(0, .ref (qL 0)), (1, .int x1), (2, .int x2)] → f_X1_append_3 fu zL x1 x2 = some res → W p l e rm_X1_append s m args below meth c H locs 0 0 (MQ below (qWv G W9 ((wLine cA qL res))) args s 0 0 (adr W9)) (F0 m 3 ls []) := by
  obtain ⟨hx, hb, hr, hml, hown, hts, hlocks, hK, hR, hRA⟩ := id C0
  intro fu
  induction fu with
  | zero =>
    intro zL x1 x2 H locs ls hP hD hS hl hf
    rw [f_X1_append_3] at hf
    cases hf
  | succ fu ih =>
    intro zL x1 x2 H locs ls hP hD hS hl hf
    rw [f_X1_append_3] at hf
    refine lv_iload_n hx hb dX1_append_3 rfl (lv_at hl 2 rfl) ?_
    refine lv_if_lt (tgt := 55) hx hb dX1_append_4 (by decide) (fun c_1 => ?_) (fun c_1 => ?_)
    · rw [if_pos (c_1)] at hf
      cases hf
      exact W.vret hx hb hr (fun t ht hW => ⟨⟨(), rfl, trivial, toT ht hP⟩, hS.F ht⟩) hS.2.2 dX1_append_55 hlocks
    · rw [if_neg (c_1)] at hf
      refine lv_iload_n hx hb dX1_append_7 rfl (lv_at hl 1 rfl) ?_
      refine lv_iload_n hx hb dX1_append_8 rfl (lv_at hl 2 rfl) ?_
      refine lv_iushr hx hb dX1_append_9 rfl ?_
      refine lv_sipush (v := (255 : Int32)) hx hb dX1_append_10 (by decide) ?_
      refine lv_iand hx hb dX1_append_13 ?_
      obtain ⟨y_2, hq, hf⟩ := obd hf
      have hy_2 : (((x1.toUInt32 >>> (x2.toUInt32 &&& Int32.toUInt32 31)).toInt32) &&& (255 : Int32)) = y_2 := Option.some.inj hq
      rw [hy_2]
      refine lv_istore_n (lv' := [(3, .int y_2), (0, .ref (qL 0)), (1, .int x1), (2, .int x2)]) hx hb dX1_append_14 rfl hl (by decide) rfl (fun ls hl => ?_)
      refine lv_iload_n hx hb dX1_append_15 rfl (lv_at hl 0 rfl) ?_
      refine lv_if_eq (tgt := 49) hx hb dX1_append_16 (by decide) (fun c_3 => ?_) (fun c_3 => ?_)
      · rw [if_pos (c_3)] at hf
        exact b_X1_append_49 qL   C0 (fun zL_ x1_ x2_ => f_X1_append_3  fu zL_ x1_ x2_) ih zL x1 x2 H locs ls hP hD hS (lv_sub hl [1, 2, 3] rfl) hf
      · rw [if_neg (c_3)] at hf
        refine lv_aload_n hx hb dX1_append_19 rfl (lv_at hl 1 rfl) ?_
        refine va_get (D := G) (ci := 0) (v := .int (gL_len zL)) (C := RX1) (T := TX1) (N := 2) hx hb hts fin_X1 hown hK.1 hP 0 rfl rfl 1 (by decide) (hts _ wi_113) (fun _ h9 => h9) rfl dX1_append_20 ?_
        refine lv_bipush (v := (100 : Int32)) hx hb dX1_append_23 (by decide) ?_
        refine lv_icmp_ge (tgt := 49) hx hb dX1_append_25 (by decide) (fun c_4 => ?_) (fun c_4 => ?_)
        · rw [if_pos (c_4)] at hf
          exact b_X1_append_49 qL   C0 (fun zL_ x1_ x2_ => f_X1_append_3  fu zL_ x1_ x2_) ih zL x1 x2 H locs ls hP hD hS (lv_sub hl [1, 2, 3] rfl) hf
        · rw [if_neg (c_4)] at hf
          refine lv_aload_n hx hb dX1_append_28 rfl (lv_at hl 1 rfl) ?_
          refine va_get (D := G) (ci := 0) (v := .ref (qL 1)) (C := RX1) (T := TX1) (N := 2) hx hb hts fin_X1 hown hK.1 hP 0 rfl rfl 0 (by decide) (hts _ wi_111) (fun _ h9 => h9) rfl dX1_append_29 ?_
          refine lv_aload_n hx hb dX1_append_32 rfl (lv_at hl 1 rfl) ?_
          refine va_get (D := G) (ci := 0) (v := .int (gL_len zL)) (C := RX1) (T := TX1) (N := 2) hx hb hts fin_X1 hown hK.1 hP 0 rfl rfl 1 (by decide) (hts _ wi_113) (fun _ h9 => h9) rfl dX1_append_33 ?_
          refine lv_iload_n hx hb dX1_append_36 rfl (lv_at hl 0 rfl) ?_
          refine lv_i2c hx hb dX1_append_37 rfl ?_
          obtain ⟨hi_5, hf⟩ := oif hf
          refine va_cast hx hb hK.1 hP hD hS 1 2 rfl rfl (inb_in hi_5) dX1_append_38 (fun H locs hP hD hS => ?_)
          have hP := sL_ch_P hP
          have hD := sL_ch_D hD
          refine lv_aload_n hx hb dX1_append_39 rfl (lv_at hl 1 rfl) ?_
          refine lv_dup hx hb dX1_append_40 rfl ?_
          refine va_get (D := G) (ci := 0) (v := .int (gL_len (uL_ch zL (upd (gL_ch zL) (gL_len zL).toNatClampNeg (vp_nar .char (((y_2).toUInt32 % 65536).toInt32)))))) (C := RX1) (T := TX1) (N := 2) hx hb hts fin_X1 hown hK.1 hP 0 rfl rfl 1 (by decide) (hts _ wi_113) (fun _ h9 => h9) rfl dX1_append_41 ?_
          refine lv_iconst (v := 1) hx hb dX1_append_44 (by decide) ?_
          refine lv_iadd hx hb dX1_append_45 ?_
          refine va_put (D := G) (ci := 0) (v := .int ((gL_len (uL_ch zL (upd (gL_ch zL) (gL_len zL).toNatClampNeg (vp_nar .char (((y_2).toUInt32 % 65536).toInt32))))) + (1 : Int32))) (ty := .int) (C := RX1) (T := TX1) (N := 2) hx hb hts fin_X1 tyX1 tyX1_ok nmX1 hown hK.1 hP hD hS 0 rfl rfl 1 (by decide) (hts _ wi_113) (fun _ h9 => h9) rfl (by decide +kernel) rfl rfl (Nat.le_of_ble_eq_true rfl) dX1_append_46 (fun H locs hP hD hS => ?_)
          have hP := sL_len_P hP
          have hD := sL_len_D hD
          exact b_X1_append_49 qL   C0 (fun zL_ x1_ x2_ => f_X1_append_3  fu zL_ x1_ x2_) ih (uL_len (uL_ch zL (upd (gL_ch zL) (gL_len zL).toNatClampNeg (vp_nar .char (((y_2).toUInt32 % 65536).toInt32)))) ((gL_len (uL_ch zL (upd (gL_ch zL) (gL_len zL).toNatClampNeg (vp_nar .char (((y_2).toUInt32 % 65536).toInt32))))) + (1 : Int32))) x1 x2 H locs ls hP hD hS (lv_sub hl [1, 2, 3] rfl) hf
def f_X1_append (zL : LineS) (a1 : Int32) : Option (LineS) := f_X1_append_3 fuel zL a1 (24 : Int32)
set_option maxHeartbeats 4000000 in
set_option maxRecDepth 100000 in
theorem b_X1_append_0 {p : Program} {l : Launch} {e : Env} {s : State} {m : MethodId} {args : Array Value} {below : List Frame} {meth : Method} {c : Code} {G : va_G} {cA : Nat → ClassId} {W9 : va_W} (qL : Nat → Nat) (C0 : Amb p s m args meth c cX1_append RX1 4 none G cA (adr W9) []) {res : LineS} : ∀ (zL : LineS) (a1 : Int32) (H : Heap) (locs : List Loc) (ls : Array Slot), va_P G vwCl ((wLine cA qL zL)) H → va_D (adr W9) ((wLine cA qL zL)) → va_S (adr W9) s.heap H locs → lv_has ls 4 [(0, .ref (qL 0)), (1, .int a1)] → f_X1_append zL a1 = some res → W p l e rm_X1_append s m args below meth c H locs 0 0 (MQ below (qWv G W9 ((wLine cA qL res))) args s 0 0 (adr W9)) (F0 m 0 ls []) := by
  obtain ⟨hx, hb, hr, hml, hown, hts, hlocks, hK, hR, hRA⟩ := id C0
  intro zL a1 H locs ls hP hD hS hl hf
  unfold f_X1_append at hf
  refine lv_bipush (v := (24 : Int32)) hx hb dX1_append_0 (by decide) ?_
  refine lv_istore_n (lv' := [(2, .int (24 : Int32)), (0, .ref (qL 0)), (1, .int a1)]) hx hb dX1_append_2 rfl hl (by decide) rfl (fun ls hl => ?_)
  exact b_X1_append_3 qL   C0  fuel zL a1 (24 : Int32) H locs ls hP hD hS (lv_sub hl [1, 2, 0] rfl) hf

set_option maxRecDepth 100000 in
theorem m_X1_append (l : Launch) (G : va_G) (cA : Nat → ClassId) (qL : Nat → Nat) (zL : LineS) (a1 : Int32) (res : LineS) (hf : f_X1_append zL a1 = some res) : MWv l yX1_append (.code yX1_append cX1_append 4 none :: wd) rm_X1_append G cA [.ref (qL 0), .int a1] ((wLine cA qL zL)) [] ((wLine cA qL res)) := by
  refine Met.ofW (cc := cX1_append) (maxL := 4) (ret := none) (by decide) rfl ?_
  intro p e s m args below meth c s₁ B hml hv
  obtain ⟨rfl, hK, hP, hD0, hR, hRA⟩ := hv
  have C0 : Amb p s m ([.ref (qL 0), .int a1] : List Value).toArray meth c cX1_append RX1 4 none G cA (adr ((wLine cA qL zL))) [] := ⟨B.exec, B.bytes, B.returns, hml, findClass_of_methodNamed B.named, fun w h => atoms_spec (ws := (.code yX1_append cX1_append 4 none :: wd)) B.pre w (List.mem_cons_of_mem _ h), B.notSynchronized, hK, hR, hRA⟩
  have hl := lv_entry ([.ref (qL 0), .int a1]) (n := 4) (Nat.le_of_ble_eq_true rfl)
  rw [lg_entry_eq]
  generalize (lg_sl ([.ref (qL 0), .int a1]) ++ List.replicate (4 - (lg_sl ([.ref (qL 0), .int a1])).length) Slot.unset).toArray = ls at hl ⊢
  have hl : lv_has ls 4 [(0, .ref (qL 0)), (1, .int a1)] := hl
  exact b_X1_append_0 (W9 := ((wLine cA qL zL))) qL   C0 zL a1 s.heap [] ls hP (adr.self hD0) va_S.rf hl hf
theorem cw_X1_append {R : Room} {s : State} {args : Array Value} {own : String} {index : Nat} (ht : ∀ w ∈ wd, w.before args s = true) (hlink : Cond.methodLink own index yX1_append ∈ wd) (hR : rm_X1_append.frames + 1 ≤ R.frames ∧ 8 + (4 + 11) + rm_X1_append.locals ≤ R.locals) : CallW R s args own RX1 index yX1_append cX1_append 4 none (.code yX1_append cX1_append 4 none :: wd) rm_X1_append 0 0 1 := cwV9 1 ht wi_299 wi_297 wi_298 wi_57 hlink (by decide +kernel) rfl rfl hR
def rm_X1_clear : Room := { frames := 0, cells := 0, slots := 0, locals := 0 }
def f_X1_clear (zL : LineS) : Option (LineS) := some (uL_len zL (0 : Int32))
set_option maxHeartbeats 4000000 in
set_option maxRecDepth 100000 in
theorem b_X1_clear_0 {p : Program} {l : Launch} {e : Env} {s : State} {m : MethodId} {args : Array Value} {below : List Frame} {meth : Method} {c : Code} {G : va_G} {cA : Nat → ClassId} {W9 : va_W} (qL : Nat → Nat) (C0 : Amb p s m args meth c cX1_clear RX1 1 none G cA (adr W9) []) {res : LineS} : ∀ (zL : LineS) (H : Heap) (locs : List Loc) (ls : Array Slot), va_P G vwCl ((wLine cA qL zL)) H → va_D (adr W9) ((wLine cA qL zL)) → va_S (adr W9) s.heap H locs → lv_has ls 1 [(0, .ref (qL 0))] → f_X1_clear zL = some res → W p l e rm_X1_clear s m args below meth c H locs 0 0 (MQ below (qWv G W9 ((wLine cA qL res))) args s 0 0 (adr W9)) (F0 m 0 ls []) := by
  obtain ⟨hx, hb, hr, hml, hown, hts, hlocks, hK, hR, hRA⟩ := id C0
  intro zL H locs ls hP hD hS hl hf
  unfold f_X1_clear at hf
  refine lv_aload_n hx hb dX1_clear_0 rfl (lv_at hl 0 rfl) ?_
  refine lv_iconst (v := 0) hx hb dX1_clear_1 (by decide) ?_
  refine va_put (D := G) (ci := 0) (v := .int (0 : Int32)) (ty := .int) (C := RX1) (T := TX1) (N := 2) hx hb hts fin_X1 tyX1 tyX1_ok nmX1 hown hK.1 hP hD hS 0 rfl rfl 1 (by decide) (hts _ wi_113) (fun _ h9 => h9) rfl (by decide +kernel) rfl rfl (Nat.le_of_ble_eq_true rfl) dX1_clear_2 (fun H locs hP hD hS => ?_)
  have hP := sL_len_P hP
  have hD := sL_len_D hD
  cases hf
  exact W.vret hx hb hr (fun t ht hW => ⟨⟨(), rfl, trivial, toT ht hP⟩, hS.F ht⟩) hS.2.2 dX1_clear_5 hlocks

set_option maxRecDepth 100000 in
theorem m_X1_clear (l : Launch) (G : va_G) (cA : Nat → ClassId) (qL : Nat → Nat) (zL : LineS) (res : LineS) (hf : f_X1_clear zL = some res) : MWv l yX1_clear (.code yX1_clear cX1_clear 1 none :: wd) rm_X1_clear G cA [.ref (qL 0)] ((wLine cA qL zL)) [] ((wLine cA qL res)) := by
  refine Met.ofW (cc := cX1_clear) (maxL := 1) (ret := none) (by decide) rfl ?_
  intro p e s m args below meth c s₁ B hml hv
  obtain ⟨rfl, hK, hP, hD0, hR, hRA⟩ := hv
  have C0 : Amb p s m ([.ref (qL 0)] : List Value).toArray meth c cX1_clear RX1 1 none G cA (adr ((wLine cA qL zL))) [] := ⟨B.exec, B.bytes, B.returns, hml, findClass_of_methodNamed B.named, fun w h => atoms_spec (ws := (.code yX1_clear cX1_clear 1 none :: wd)) B.pre w (List.mem_cons_of_mem _ h), B.notSynchronized, hK, hR, hRA⟩
  have hl := lv_entry ([.ref (qL 0)]) (n := 1) (Nat.le_of_ble_eq_true rfl)
  rw [lg_entry_eq]
  generalize (lg_sl ([.ref (qL 0)]) ++ List.replicate (1 - (lg_sl ([.ref (qL 0)])).length) Slot.unset).toArray = ls at hl ⊢
  have hl : lv_has ls 1 [(0, .ref (qL 0))] := hl
  exact b_X1_clear_0 (W9 := ((wLine cA qL zL))) qL   C0 zL s.heap [] ls hP (adr.self hD0) va_S.rf hl hf
theorem cw_X1_clear {R : Room} {s : State} {args : Array Value} {own : String} {index : Nat} (ht : ∀ w ∈ wd, w.before args s = true) (hlink : Cond.methodLink own index yX1_clear ∈ wd) (hR : rm_X1_clear.frames + 1 ≤ R.frames ∧ 8 + (1 + 11) + rm_X1_clear.locals ≤ R.locals) : CallW R s args own RX1 index yX1_clear cX1_clear 1 none (.code yX1_clear cX1_clear 1 none :: wd) rm_X1_clear 0 0 0 := cwV9 0 ht wi_201 wi_199 wi_200 wi_57 hlink (by decide +kernel) rfl rfl hR
def rm_X1_length : Room := { frames := 0, cells := 0, slots := 0, locals := 0 }
def f_X1_length (zL : LineS) : Option (Int32) := some (gL_len zL)
set_option maxHeartbeats 4000000 in
set_option maxRecDepth 100000 in
theorem b_X1_length_0 {p : Program} {l : Launch} {e : Env} {s : State} {m : MethodId} {args : Array Value} {below : List Frame} {meth : Method} {c : Code} {G : va_G} {cA : Nat → ClassId} (qL : Nat → Nat) (zL : LineS) (C0 : Amb p s m args meth c cX1_length RX1 1 (some .int) G cA (fun _ : Nat => False) ((wLine cA qL zL))) {res : Int32} : ∀ (ls : Array Slot), lv_has ls 1 [(0, .ref (qL 0))] → f_X1_length zL = some res → W p l e rm_X1_length s m args below meth c s.heap [] 0 0 (MQ below (vp_Si (fun x => x = res)) args s 0 0 (fun _ : Nat => False)) (F0 m 0 ls []) := by
  obtain ⟨hx, hb, hr, hml, hown, hts, hlocks, hK, hR, hRA⟩ := id C0
  intro ls hl hf
  unfold f_X1_length at hf
  refine lv_aload_n hx hb dX1_length_0 rfl (lv_at hl 0 rfl) ?_
  refine va_get (D := G) (ci := 0) (v := .int (gL_len zL)) (C := RX1) (T := TX1) (N := 2) hx hb hts fin_X1 hown hK.1 hR 0 rfl rfl 1 (by decide) (hts _ wi_113) (fun _ h9 => h9) rfl dX1_length_1 ?_
  cases hf
  exact W.iret hx hb hr (fun t ht hW => ⟨_, rfl, rfl, ht⟩) (fun q hq => by cases hq) dX1_length_4 hlocks

set_option maxRecDepth 100000 in
theorem m_X1_length (l : Launch) (G : va_G) (cA : Nat → ClassId) (qL : Nat → Nat) (zL : LineS)  (res : Int32) (hf : f_X1_length zL = some res) : MRi l yX1_length (.code yX1_length cX1_length 1 (some .int) :: wd) rm_X1_length G cA [.ref (qL 0)] ((wLine cA qL zL)) res := by
  refine Met.ofW (cc := cX1_length) (maxL := 1) (ret := (some .int)) (by decide) rfl ?_
  intro p e s m args below meth c s₁ B hml hv
  obtain ⟨rfl, hK, hR⟩ := hv
  have C0 : Amb p s m ([.ref (qL 0)] : List Value).toArray meth c cX1_length RX1 1 (some .int) G cA (fun _ : Nat => False) ((wLine cA qL zL)) := ⟨B.exec, B.bytes, B.returns, hml, findClass_of_methodNamed B.named, fun w h => atoms_spec (ws := (.code yX1_length cX1_length 1 (some .int) :: wd)) B.pre w (List.mem_cons_of_mem _ h), B.notSynchronized, hK, hR, fun _ _ _ h => h⟩
  have hl := lv_entry ([.ref (qL 0)]) (n := 1) (Nat.le_of_ble_eq_true rfl)
  rw [lg_entry_eq]
  generalize (lg_sl ([.ref (qL 0)]) ++ List.replicate (1 - (lg_sl ([.ref (qL 0)])).length) Slot.unset).toArray = ls at hl ⊢
  have hl : lv_has ls 1 [(0, .ref (qL 0))] := hl
  exact b_X1_length_0 qL  zL C0  ls hl hf
theorem cw_X1_length {R : Room} {s : State} {args : Array Value} {own : String} {index : Nat} (ht : ∀ w ∈ wd, w.before args s = true) (hlink : Cond.methodLink own index yX1_length ∈ wd) (hR : rm_X1_length.frames + 1 ≤ R.frames ∧ 8 + (1 + 11) + rm_X1_length.locals ≤ R.locals) : CallW R s args own RX1 index yX1_length cX1_length 1 (some .int) (.code yX1_length cX1_length 1 (some .int) :: wd) rm_X1_length 0 0 0 := cwV9 0 ht wi_197 wi_195 wi_196 wi_57 hlink (by decide +kernel) rfl rfl hR
def rm_X1_charAt : Room := { frames := 0, cells := 0, slots := 0, locals := 0 }
def f_X1_charAt (zL : LineS) (a1 : Int32) : Option (Int32) := if a1 < 0 then if cb (0 : Int32) = true then some (0 : Int32) else none else if (gL_len zL) ≤ a1 then if cb (0 : Int32) = true then some (0 : Int32) else none else if inb a1 100 = true then if cb (gL_ch zL a1.toNatClampNeg) = true then some (gL_ch zL a1.toNatClampNeg) else none else none
set_option maxHeartbeats 4000000 in
set_option maxRecDepth 100000 in
theorem b_X1_charAt_0 {p : Program} {l : Launch} {e : Env} {s : State} {m : MethodId} {args : Array Value} {below : List Frame} {meth : Method} {c : Code} {G : va_G} {cA : Nat → ClassId} (qL : Nat → Nat) (zL : LineS) (C0 : Amb p s m args meth c cX1_charAt RX1 2 (some .char) G cA (fun _ : Nat => False) ((wLine cA qL zL))) {res : Int32} : ∀ (a1 : Int32) (ls : Array Slot), lv_has ls 2 [(0, .ref (qL 0)), (1, .int a1)] → f_X1_charAt zL a1 = some res → W p l e rm_X1_charAt s m args below meth c s.heap [] 0 0 (MQ below (vp_Si (fun x => x = res)) args s 0 0 (fun _ : Nat => False)) (F0 m 0 ls []) := by
  obtain ⟨hx, hb, hr, hml, hown, hts, hlocks, hK, hR, hRA⟩ := id C0
  intro a1 ls hl hf
  unfold f_X1_charAt at hf
  refine lv_iload_n hx hb dX1_charAt_0 rfl (lv_at hl 1 rfl) ?_
  refine lv_if_lt (tgt := 21) hx hb dX1_charAt_1 (by decide) (fun c_1 => ?_) (fun c_1 => ?_)
  · rw [if_pos (c_1)] at hf
    refine lv_iconst (v := 0) hx hb dX1_charAt_21 (by decide) ?_
    obtain ⟨hz_2, hf⟩ := oif hf
    cases hf
    exact W.zret hx hb hr (cb_n hz_2) (fun t ht hW => ⟨_, rfl, rfl, ht⟩) (fun q hq => by cases hq) dX1_charAt_22 hlocks
  · rw [if_neg (c_1)] at hf
    refine lv_iload_n hx hb dX1_charAt_4 rfl (lv_at hl 1 rfl) ?_
    refine lv_aload_n hx hb dX1_charAt_5 rfl (lv_at hl 0 rfl) ?_
    refine va_get (D := G) (ci := 0) (v := .int (gL_len zL)) (C := RX1) (T := TX1) (N := 2) hx hb hts fin_X1 hown hK.1 hR 0 rfl rfl 1 (by decide) (hts _ wi_113) (fun _ h9 => h9) rfl dX1_charAt_6 ?_
    refine lv_icmp_ge (tgt := 21) hx hb dX1_charAt_9 (by decide) (fun c_3 => ?_) (fun c_3 => ?_)
    · rw [if_pos (c_3)] at hf
      refine lv_iconst (v := 0) hx hb dX1_charAt_21 (by decide) ?_
      obtain ⟨hz_4, hf⟩ := oif hf
      cases hf
      exact W.zret hx hb hr (cb_n hz_4) (fun t ht hW => ⟨_, rfl, rfl, ht⟩) (fun q hq => by cases hq) dX1_charAt_22 hlocks
    · rw [if_neg (c_3)] at hf
      refine lv_aload_n hx hb dX1_charAt_12 rfl (lv_at hl 0 rfl) ?_
      refine va_get (D := G) (ci := 0) (v := .ref (qL 1)) (C := RX1) (T := TX1) (N := 2) hx hb hts fin_X1 hown hK.1 hR 0 rfl rfl 0 (by decide) (hts _ wi_111) (fun _ h9 => h9) rfl dX1_charAt_13 ?_
      refine lv_iload_n hx hb dX1_charAt_16 rfl (lv_at hl 1 rfl) ?_
      obtain ⟨hi_5, hf⟩ := oif hf
      refine va_cald hx hb hK.1 hR 1 2 rfl rfl (inb_in hi_5) dX1_charAt_17 ?_
      refine lv_goto (tgt := 22) hx hb dX1_charAt_18 (by decide) ?_
      obtain ⟨hz_6, hf⟩ := oif hf
      cases hf
      exact W.zret hx hb hr (cb_n hz_6) (fun t ht hW => ⟨_, rfl, rfl, ht⟩) (fun q hq => by cases hq) dX1_charAt_22 hlocks

set_option maxRecDepth 100000 in
theorem m_X1_charAt (l : Launch) (G : va_G) (cA : Nat → ClassId) (qL : Nat → Nat) (zL : LineS) (a1 : Int32) (res : Int32) (hf : f_X1_charAt zL a1 = some res) : MRi l yX1_charAt (.code yX1_charAt cX1_charAt 2 (some .char) :: wd) rm_X1_charAt G cA [.ref (qL 0), .int a1] ((wLine cA qL zL)) res := by
  refine Met.ofW (cc := cX1_charAt) (maxL := 2) (ret := (some .char)) (by decide) rfl ?_
  intro p e s m args below meth c s₁ B hml hv
  obtain ⟨rfl, hK, hR⟩ := hv
  have C0 : Amb p s m ([.ref (qL 0), .int a1] : List Value).toArray meth c cX1_charAt RX1 2 (some .char) G cA (fun _ : Nat => False) ((wLine cA qL zL)) := ⟨B.exec, B.bytes, B.returns, hml, findClass_of_methodNamed B.named, fun w h => atoms_spec (ws := (.code yX1_charAt cX1_charAt 2 (some .char) :: wd)) B.pre w (List.mem_cons_of_mem _ h), B.notSynchronized, hK, hR, fun _ _ _ h => h⟩
  have hl := lv_entry ([.ref (qL 0), .int a1]) (n := 2) (Nat.le_of_ble_eq_true rfl)
  rw [lg_entry_eq]
  generalize (lg_sl ([.ref (qL 0), .int a1]) ++ List.replicate (2 - (lg_sl ([.ref (qL 0), .int a1])).length) Slot.unset).toArray = ls at hl ⊢
  have hl : lv_has ls 2 [(0, .ref (qL 0)), (1, .int a1)] := hl
  exact b_X1_charAt_0 qL  zL C0 a1 ls hl hf
theorem cw_X1_charAt {R : Room} {s : State} {args : Array Value} {own : String} {index : Nat} (ht : ∀ w ∈ wd, w.before args s = true) (hlink : Cond.methodLink own index yX1_charAt ∈ wd) (hR : rm_X1_charAt.frames + 1 ≤ R.frames ∧ 8 + (2 + 11) + rm_X1_charAt.locals ≤ R.locals) : CallW R s args own RX1 index yX1_charAt cX1_charAt 2 (some .char) (.code yX1_charAt cX1_charAt 2 (some .char) :: wd) rm_X1_charAt 0 0 1 := cwV9 1 ht wi_365 wi_363 wi_364 wi_57 hlink (by decide +kernel) rfl rfl hR
def rm_X4_keyOf : Room := { frames := 0, cells := 0, slots := 0, locals := 0 }
def f_X4_keyOf (a0 : Int32) (a1 : Int32) (a2 : Int32) : Option (Int32) := some (((a0 <<< ((11 : Int32) &&& 31)) ||| ((a1 + (16 : Int32)) <<< ((6 : Int32) &&& 31))) ||| ((31 : Int32) - a2))
set_option maxHeartbeats 4000000 in
set_option maxRecDepth 100000 in
theorem b_X4_keyOf_0 {p : Program} {l : Launch} {e : Env} {s : State} {m : MethodId} {args : Array Value} {below : List Frame} {meth : Method} {c : Code} {G : va_G} {cA : Nat → ClassId} (C0 : Amb p s m args meth c cX4_keyOf RX4 3 (some .int) G cA (fun _ : Nat => False) []) {res : Int32} : ∀ (a0 : Int32) (a1 : Int32) (a2 : Int32) (ls : Array Slot), lv_has ls 3 [(0, .int a0), (1, .int a1), (2, .int a2)] → f_X4_keyOf a0 a1 a2 = some res → W p l e rm_X4_keyOf s m args below meth c s.heap [] 0 0 (MQ below (vp_Si (fun x => x = res)) args s 0 0 (fun _ : Nat => False)) (F0 m 0 ls []) := by
  obtain ⟨hx, hb, hr, hml, hown, hts, hlocks, hK, hR, hRA⟩ := id C0
  intro a0 a1 a2 ls hl hf
  unfold f_X4_keyOf at hf
  refine lv_iload_n hx hb dX4_keyOf_0 rfl (lv_at hl 0 rfl) ?_
  refine lv_bipush (v := (11 : Int32)) hx hb dX4_keyOf_1 (by decide) ?_
  refine lv_ishl hx hb dX4_keyOf_3 ?_
  refine lv_iload_n hx hb dX4_keyOf_4 rfl (lv_at hl 1 rfl) ?_
  refine lv_bipush (v := (16 : Int32)) hx hb dX4_keyOf_5 (by decide) ?_
  refine lv_iadd hx hb dX4_keyOf_7 ?_
  refine lv_bipush (v := (6 : Int32)) hx hb dX4_keyOf_8 (by decide) ?_
  refine lv_ishl hx hb dX4_keyOf_10 ?_
  refine lv_ior hx hb dX4_keyOf_11 ?_
  refine lv_bipush (v := (31 : Int32)) hx hb dX4_keyOf_12 (by decide) ?_
  refine lv_iload_n hx hb dX4_keyOf_14 rfl (lv_at hl 2 rfl) ?_
  refine lv_isub hx hb dX4_keyOf_15 ?_
  refine lv_ior hx hb dX4_keyOf_16 ?_
  cases hf
  exact W.iret hx hb hr (fun t ht hW => ⟨_, rfl, rfl, ht⟩) (fun q hq => by cases hq) dX4_keyOf_17 hlocks

set_option maxRecDepth 100000 in
theorem m_X4_keyOf (l : Launch) (G : va_G) (cA : Nat → ClassId) (a0 : Int32) (a1 : Int32) (a2 : Int32) (res : Int32) (hf : f_X4_keyOf a0 a1 a2 = some res) : MRi l yX4_keyOf (.code yX4_keyOf cX4_keyOf 3 (some .int) :: wd) rm_X4_keyOf G cA [.int a0, .int a1, .int a2] [] res := by
  refine Met.ofW (cc := cX4_keyOf) (maxL := 3) (ret := (some .int)) (by decide) rfl ?_
  intro p e s m args below meth c s₁ B hml hv
  obtain ⟨rfl, hK, hR⟩ := hv
  have C0 : Amb p s m ([.int a0, .int a1, .int a2] : List Value).toArray meth c cX4_keyOf RX4 3 (some .int) G cA (fun _ : Nat => False) [] := ⟨B.exec, B.bytes, B.returns, hml, findClass_of_methodNamed B.named, fun w h => atoms_spec (ws := (.code yX4_keyOf cX4_keyOf 3 (some .int) :: wd)) B.pre w (List.mem_cons_of_mem _ h), B.notSynchronized, hK, hR, fun _ _ _ h => h⟩
  have hl := lv_entry ([.int a0, .int a1, .int a2]) (n := 3) (Nat.le_of_ble_eq_true rfl)
  rw [lg_entry_eq]
  generalize (lg_sl ([.int a0, .int a1, .int a2]) ++ List.replicate (3 - (lg_sl ([.int a0, .int a1, .int a2])).length) Slot.unset).toArray = ls at hl ⊢
  have hl : lv_has ls 3 [(0, .int a0), (1, .int a1), (2, .int a2)] := hl
  exact b_X4_keyOf_0    C0 a0 a1 a2 ls hl hf
theorem cw_X4_keyOf {R : Room} {s : State} {args : Array Value} {own : String} {index : Nat} (ht : ∀ w ∈ wd, w.before args s = true) (hlink : Cond.methodLink own index yX4_keyOf ∈ wd) (hR : rm_X4_keyOf.frames + 1 ≤ R.frames ∧ 8 + (3 + 11) + rm_X4_keyOf.locals ≤ R.locals) : CallB R s args own index yX4_keyOf cX4_keyOf 3 (some .int) (.code yX4_keyOf cX4_keyOf 3 (some .int) :: wd) rm_X4_keyOf 0 0 3 ∧ (Cond.static yX4_keyOf).before args s = true := cwS9 3 ht wi_396 wi_395 wi_56 hlink (by decide +kernel) rfl rfl hR
def rm_X4_commonDivisor : Room := { frames := 0, cells := 0, slots := 0, locals := 0 }
def f_X4_commonDivisor_3  : Nat → Int64 → Int64 → Int32 → Option (Int64)
  | 0, _, _, _ => none
  | fu + 1, x0, x2, x4 => if (100 : Int32) ≤ x4 then some x0 else if x2 = (0 : Int64) then some x0 else if ¬ x2 = 0 then (some ((x0 - x0 / x2 * x2))).bind fun y_4 => f_X4_commonDivisor_3  fu x2 y_4 (x4 + 1) else none
set_option maxHeartbeats 4000000 in
set_option maxRecDepth 100000 in
theorem b_X4_commonDivisor_3 {p : Program} {l : Launch} {e : Env} {s : State} {m : MethodId} {args : Array Value} {below : List Frame} {meth : Method} {c : Code} {G : va_G} {cA : Nat → ClassId} (C0 : Amb p s m args meth c cX4_commonDivisor RX4 7 (some .long) G cA (fun _ : Nat => False) []) {res : Int64} : ∀ (fu : Nat) (x0 : Int64) (x2 : Int64) (x4 : Int32) (ls : Array Slot), lv_has ls 7 [(0, .long x0), (2, .long x2), (4, .int x4)] → f_X4_commonDivisor_3 fu x0 x2 x4 = some res → W p l e rm_X4_commonDivisor s m args below meth c s.heap [] 0 0 (MQ below (vp_Sl (fun x => x = res)) args s 0 0 (fun _ : Nat => False)) (F0 m 3 ls []) := by
  obtain ⟨hx, hb, hr, hml, hown, hts, hlocks, hK, hR, hRA⟩ := id C0
  intro fu
  induction fu with
  | zero =>
    intro x0 x2 x4 ls hl hf
    rw [f_X4_commonDivisor_3] at hf
    cases hf
  | succ fu ih =>
    intro x0 x2 x4 ls hl hf
    rw [f_X4_commonDivisor_3] at hf
    refine lv_iload hx hb dX4_commonDivisor_3 (lv_at hl 2 rfl) ?_
    refine lv_bipush (v := (100 : Int32)) hx hb dX4_commonDivisor_5 (by decide) ?_
    refine lv_icmp_ge (tgt := 32) hx hb dX4_commonDivisor_7 (by decide) (fun c_1 => ?_) (fun c_1 => ?_)
    · rw [if_pos (c_1)] at hf
      refine lv_lload_n hx hb dX4_commonDivisor_32 rfl (lv_at hl 0 rfl) ?_
      cases hf
      exact W.lret hx hb hr (fun t ht hW => ⟨_, rfl, rfl, ht⟩) (fun q hq => by cases hq) dX4_commonDivisor_33 hlocks
    · rw [if_neg (c_1)] at hf
      refine lv_lload_n hx hb dX4_commonDivisor_10 rfl (lv_at hl 1 rfl) ?_
      refine lv_lconst (v := (0 : Int64)) hx hb dX4_commonDivisor_11 (by decide) ?_
      refine W.lcmp hx hb dX4_commonDivisor_12 ?_
      refine lv_if_eq (tgt := 32) hx hb dX4_commonDivisor_13 (by decide) (fun c_2 => ?_) (fun c_2 => ?_)
      · rw [if_pos ((lg_cmp_eq _ _).mp c_2)] at hf
        refine lv_lload_n hx hb dX4_commonDivisor_32 rfl (lv_at hl 0 rfl) ?_
        cases hf
        exact W.lret hx hb hr (fun t ht hW => ⟨_, rfl, rfl, ht⟩) (fun q hq => by cases hq) dX4_commonDivisor_33 hlocks
      · rw [if_neg (fun h => c_2 ((lg_cmp_eq _ _).mpr h))] at hf
        refine lv_lload_n hx hb dX4_commonDivisor_16 rfl (lv_at hl 0 rfl) ?_
        refine lv_lload_n hx hb dX4_commonDivisor_17 rfl (lv_at hl 1 rfl) ?_
        obtain ⟨hn_3, hf⟩ := oif hf
        refine lv_lrem hx hb dX4_commonDivisor_18 hn_3 ?_
        obtain ⟨y_4, hq, hf⟩ := obd hf
        have hy_4 : (x0 - x0 / x2 * x2) = y_4 := Option.some.inj hq
        rw [hy_4]
        refine lv_lstore (lv' := [(5, .long y_4), (0, .long x0), (2, .long x2), (4, .int x4)]) hx hb dX4_commonDivisor_19 hl (by decide) rfl (fun ls hl => ?_)
        refine lv_lload_n hx hb dX4_commonDivisor_21 rfl (lv_at hl 2 rfl) ?_
        refine lv_lstore_n (lv' := [(0, .long x2), (5, .long y_4), (2, .long x2), (4, .int x4)]) hx hb dX4_commonDivisor_22 rfl hl (by decide) rfl (fun ls hl => ?_)
        refine lv_lload hx hb dX4_commonDivisor_23 (lv_at hl 1 rfl) ?_
        refine lv_lstore_n (lv' := [(2, .long y_4), (0, .long x2), (5, .long y_4), (4, .int x4)]) hx hb dX4_commonDivisor_25 rfl hl (by decide) rfl (fun ls hl => ?_)
        refine lv_iinc (v := (x4 + 1)) (lv' := [(4, .int (x4 + 1)), (2, .long y_4), (0, .long x2), (5, .long y_4)]) hx hb dX4_commonDivisor_26 hl (k := 3) rfl rfl (by decide) rfl (fun ls hl => ?_)
        refine lv_goto (tgt := 3) hx hb dX4_commonDivisor_29 (by decide) ?_
        exact ih x2 y_4 (x4 + 1) ls (lv_sub hl [2, 1, 0] rfl) hf
def f_X4_commonDivisor (a0 : Int64) (a2 : Int64) : Option (Int64) := f_X4_commonDivisor_3 fuel a0 a2 (0 : Int32)
set_option maxHeartbeats 4000000 in
set_option maxRecDepth 100000 in
theorem b_X4_commonDivisor_0 {p : Program} {l : Launch} {e : Env} {s : State} {m : MethodId} {args : Array Value} {below : List Frame} {meth : Method} {c : Code} {G : va_G} {cA : Nat → ClassId} (C0 : Amb p s m args meth c cX4_commonDivisor RX4 7 (some .long) G cA (fun _ : Nat => False) []) {res : Int64} : ∀ (a0 : Int64) (a2 : Int64) (ls : Array Slot), lv_has ls 7 [(0, .long a0), (2, .long a2)] → f_X4_commonDivisor a0 a2 = some res → W p l e rm_X4_commonDivisor s m args below meth c s.heap [] 0 0 (MQ below (vp_Sl (fun x => x = res)) args s 0 0 (fun _ : Nat => False)) (F0 m 0 ls []) := by
  obtain ⟨hx, hb, hr, hml, hown, hts, hlocks, hK, hR, hRA⟩ := id C0
  intro a0 a2 ls hl hf
  unfold f_X4_commonDivisor at hf
  refine lv_iconst (v := 0) hx hb dX4_commonDivisor_0 (by decide) ?_
  refine lv_istore (lv' := [(4, .int (0 : Int32)), (0, .long a0), (2, .long a2)]) hx hb dX4_commonDivisor_1 hl (by decide) rfl (fun ls hl => ?_)
  exact b_X4_commonDivisor_3    C0  fuel a0 a2 (0 : Int32) ls (lv_sub hl [1, 2, 0] rfl) hf

set_option maxRecDepth 100000 in
theorem m_X4_commonDivisor (l : Launch) (G : va_G) (cA : Nat → ClassId) (a0 : Int64) (a2 : Int64) (res : Int64) (hf : f_X4_commonDivisor a0 a2 = some res) : MRl l yX4_commonDivisor (.code yX4_commonDivisor cX4_commonDivisor 7 (some .long) :: wd) rm_X4_commonDivisor G cA [.long a0, .long a2] [] res := by
  refine Met.ofW (cc := cX4_commonDivisor) (maxL := 7) (ret := (some .long)) (by decide) rfl ?_
  intro p e s m args below meth c s₁ B hml hv
  obtain ⟨rfl, hK, hR⟩ := hv
  have C0 : Amb p s m ([.long a0, .long a2] : List Value).toArray meth c cX4_commonDivisor RX4 7 (some .long) G cA (fun _ : Nat => False) [] := ⟨B.exec, B.bytes, B.returns, hml, findClass_of_methodNamed B.named, fun w h => atoms_spec (ws := (.code yX4_commonDivisor cX4_commonDivisor 7 (some .long) :: wd)) B.pre w (List.mem_cons_of_mem _ h), B.notSynchronized, hK, hR, fun _ _ _ h => h⟩
  have hl := lv_entry ([.long a0, .long a2]) (n := 7) (Nat.le_of_ble_eq_true rfl)
  rw [lg_entry_eq]
  generalize (lg_sl ([.long a0, .long a2]) ++ List.replicate (7 - (lg_sl ([.long a0, .long a2])).length) Slot.unset).toArray = ls at hl ⊢
  have hl : lv_has ls 7 [(0, .long a0), (2, .long a2)] := hl
  exact b_X4_commonDivisor_0    C0 a0 a2 ls hl hf
theorem cw_X4_commonDivisor {R : Room} {s : State} {args : Array Value} {own : String} {index : Nat} (ht : ∀ w ∈ wd, w.before args s = true) (hlink : Cond.methodLink own index yX4_commonDivisor ∈ wd) (hR : rm_X4_commonDivisor.frames + 1 ≤ R.frames ∧ 8 + (7 + 11) + rm_X4_commonDivisor.locals ≤ R.locals) : CallB R s args own index yX4_commonDivisor cX4_commonDivisor 7 (some .long) (.code yX4_commonDivisor cX4_commonDivisor 7 (some .long) :: wd) rm_X4_commonDivisor 0 0 2 ∧ (Cond.static yX4_commonDivisor).before args s = true := cwS9 2 ht wi_422 wi_421 wi_56 hlink (by decide +kernel) rfl rfl hR
def rm_X4_size : Room := { frames := 0, cells := 0, slots := 0, locals := 0 }
def f_X4_size (nS : Nat) (zS : SumS) : Option (Int32) := some (gS_size zS)
set_option maxHeartbeats 4000000 in
set_option maxRecDepth 100000 in
theorem b_X4_size_0 {p : Program} {l : Launch} {e : Env} {s : State} {m : MethodId} {args : Array Value} {below : List Frame} {meth : Method} {c : Code} {G : va_G} {cA : Nat → ClassId} (qS : Nat → Nat) (nS : Nat) (zS : SumS) (C0 : Amb p s m args meth c cX4_size RX4 1 (some .int) G cA (fun _ : Nat => False) ((wSum cA qS nS zS))) {res : Int32} : ∀ (ls : Array Slot), lv_has ls 1 [(0, .ref (qS 0))] → f_X4_size nS zS = some res → W p l e rm_X4_size s m args below meth c s.heap [] 0 0 (MQ below (vp_Si (fun x => x = res)) args s 0 0 (fun _ : Nat => False)) (F0 m 0 ls []) := by
  obtain ⟨hx, hb, hr, hml, hown, hts, hlocks, hK, hR, hRA⟩ := id C0
  intro ls hl hf
  unfold f_X4_size at hf
  refine lv_aload_n hx hb dX4_size_0 rfl (lv_at hl 0 rfl) ?_
  refine va_get (D := G) (ci := 2) (v := .int (gS_size zS)) (C := RX4) (T := TX4) (N := 6) hx hb hts fin_X4 hown hK.1 hR 0 rfl rfl 4 (by decide) (hts _ wi_88) (fun _ h9 => h9) rfl dX4_size_1 ?_
  cases hf
  exact W.iret hx hb hr (fun t ht hW => ⟨_, rfl, rfl, ht⟩) (fun q hq => by cases hq) dX4_size_4 hlocks

set_option maxRecDepth 100000 in
theorem m_X4_size (l : Launch) (G : va_G) (cA : Nat → ClassId) (qS : Nat → Nat) (nS : Nat) (zS : SumS)  (res : Int32) (hf : f_X4_size nS zS = some res) : MRi l yX4_size (.code yX4_size cX4_size 1 (some .int) :: wd) rm_X4_size G cA [.ref (qS 0)] ((wSum cA qS nS zS)) res := by
  refine Met.ofW (cc := cX4_size) (maxL := 1) (ret := (some .int)) (by decide) rfl ?_
  intro p e s m args below meth c s₁ B hml hv
  obtain ⟨rfl, hK, hR⟩ := hv
  have C0 : Amb p s m ([.ref (qS 0)] : List Value).toArray meth c cX4_size RX4 1 (some .int) G cA (fun _ : Nat => False) ((wSum cA qS nS zS)) := ⟨B.exec, B.bytes, B.returns, hml, findClass_of_methodNamed B.named, fun w h => atoms_spec (ws := (.code yX4_size cX4_size 1 (some .int) :: wd)) B.pre w (List.mem_cons_of_mem _ h), B.notSynchronized, hK, hR, fun _ _ _ h => h⟩
  have hl := lv_entry ([.ref (qS 0)]) (n := 1) (Nat.le_of_ble_eq_true rfl)
  rw [lg_entry_eq]
  generalize (lg_sl ([.ref (qS 0)]) ++ List.replicate (1 - (lg_sl ([.ref (qS 0)])).length) Slot.unset).toArray = ls at hl ⊢
  have hl : lv_has ls 1 [(0, .ref (qS 0))] := hl
  exact b_X4_size_0 qS nS  zS C0  ls hl hf
theorem cw_X4_size {R : Room} {s : State} {args : Array Value} {own : String} {index : Nat} (ht : ∀ w ∈ wd, w.before args s = true) (hlink : Cond.methodLink own index yX4_size ∈ wd) (hR : rm_X4_size.frames + 1 ≤ R.frames ∧ 8 + (1 + 11) + rm_X4_size.locals ≤ R.locals) : CallW R s args own RX4 index yX4_size cX4_size 1 (some .int) (.code yX4_size cX4_size 1 (some .int) :: wd) rm_X4_size 0 0 0 := cwV9 0 ht wi_463 wi_461 wi_462 wi_56 hlink (by decide +kernel) rfl rfl hR
def rm_X4_has : Room := { frames := 0, cells := 0, slots := 0, locals := 0 }
def f_X4_has (nS : Nat) (zS : SumS) (a1 : Int32) : Option (Int32) := if a1 < 0 then some (0 : Int32) else if (gS_size zS) ≤ a1 then some (0 : Int32) else some (1 : Int32)
set_option maxHeartbeats 4000000 in
set_option maxRecDepth 100000 in
theorem b_X4_has_0 {p : Program} {l : Launch} {e : Env} {s : State} {m : MethodId} {args : Array Value} {below : List Frame} {meth : Method} {c : Code} {G : va_G} {cA : Nat → ClassId} (qS : Nat → Nat) (nS : Nat) (zS : SumS) (C0 : Amb p s m args meth c cX4_has RX4 2 (some .boolean) G cA (fun _ : Nat => False) ((wSum cA qS nS zS))) {res : Int32} : ∀ (a1 : Int32) (ls : Array Slot), lv_has ls 2 [(0, .ref (qS 0)), (1, .int a1)] → f_X4_has nS zS a1 = some res → W p l e rm_X4_has s m args below meth c s.heap [] 0 0 (MQ below (vp_Si (fun x => x = res)) args s 0 0 (fun _ : Nat => False)) (F0 m 0 ls []) := by
  obtain ⟨hx, hb, hr, hml, hown, hts, hlocks, hK, hR, hRA⟩ := id C0
  intro a1 ls hl hf
  unfold f_X4_has at hf
  refine lv_iload_n hx hb dX4_has_0 rfl (lv_at hl 1 rfl) ?_
  refine lv_if_lt (tgt := 16) hx hb dX4_has_1 (by decide) (fun c_1 => ?_) (fun c_1 => ?_)
  · rw [if_pos (c_1)] at hf
    refine lv_iconst (v := 0) hx hb dX4_has_16 (by decide) ?_
    cases hf
    exact W.zret hx hb hr (by decide) (fun t ht hW => ⟨_, rfl, rfl, ht⟩) (fun q hq => by cases hq) dX4_has_17 hlocks
  · rw [if_neg (c_1)] at hf
    refine lv_iload_n hx hb dX4_has_4 rfl (lv_at hl 1 rfl) ?_
    refine lv_aload_n hx hb dX4_has_5 rfl (lv_at hl 0 rfl) ?_
    refine va_get (D := G) (ci := 2) (v := .int (gS_size zS)) (C := RX4) (T := TX4) (N := 6) hx hb hts fin_X4 hown hK.1 hR 0 rfl rfl 4 (by decide) (hts _ wi_88) (fun _ h9 => h9) rfl dX4_has_6 ?_
    refine lv_icmp_ge (tgt := 16) hx hb dX4_has_9 (by decide) (fun c_2 => ?_) (fun c_2 => ?_)
    · rw [if_pos (c_2)] at hf
      refine lv_iconst (v := 0) hx hb dX4_has_16 (by decide) ?_
      cases hf
      exact W.zret hx hb hr (by decide) (fun t ht hW => ⟨_, rfl, rfl, ht⟩) (fun q hq => by cases hq) dX4_has_17 hlocks
    · rw [if_neg (c_2)] at hf
      refine lv_iconst (v := 1) hx hb dX4_has_12 (by decide) ?_
      refine lv_goto (tgt := 17) hx hb dX4_has_13 (by decide) ?_
      cases hf
      exact W.zret hx hb hr (by decide) (fun t ht hW => ⟨_, rfl, rfl, ht⟩) (fun q hq => by cases hq) dX4_has_17 hlocks

set_option maxRecDepth 100000 in
theorem m_X4_has (l : Launch) (G : va_G) (cA : Nat → ClassId) (qS : Nat → Nat) (nS : Nat) (zS : SumS) (a1 : Int32) (res : Int32) (hf : f_X4_has nS zS a1 = some res) : MRi l yX4_has (.code yX4_has cX4_has 2 (some .boolean) :: wd) rm_X4_has G cA [.ref (qS 0), .int a1] ((wSum cA qS nS zS)) res := by
  refine Met.ofW (cc := cX4_has) (maxL := 2) (ret := (some .boolean)) (by decide) rfl ?_
  intro p e s m args below meth c s₁ B hml hv
  obtain ⟨rfl, hK, hR⟩ := hv
  have C0 : Amb p s m ([.ref (qS 0), .int a1] : List Value).toArray meth c cX4_has RX4 2 (some .boolean) G cA (fun _ : Nat => False) ((wSum cA qS nS zS)) := ⟨B.exec, B.bytes, B.returns, hml, findClass_of_methodNamed B.named, fun w h => atoms_spec (ws := (.code yX4_has cX4_has 2 (some .boolean) :: wd)) B.pre w (List.mem_cons_of_mem _ h), B.notSynchronized, hK, hR, fun _ _ _ h => h⟩
  have hl := lv_entry ([.ref (qS 0), .int a1]) (n := 2) (Nat.le_of_ble_eq_true rfl)
  rw [lg_entry_eq]
  generalize (lg_sl ([.ref (qS 0), .int a1]) ++ List.replicate (2 - (lg_sl ([.ref (qS 0), .int a1])).length) Slot.unset).toArray = ls at hl ⊢
  have hl : lv_has ls 2 [(0, .ref (qS 0)), (1, .int a1)] := hl
  exact b_X4_has_0 qS nS  zS C0 a1 ls hl hf
theorem cw_X4_has {R : Room} {s : State} {args : Array Value} {own : String} {index : Nat} (ht : ∀ w ∈ wd, w.before args s = true) (hlink : Cond.methodLink own index yX4_has ∈ wd) (hR : rm_X4_has.frames + 1 ≤ R.frames ∧ 8 + (2 + 11) + rm_X4_has.locals ≤ R.locals) : CallW R s args own RX4 index yX4_has cX4_has 2 (some .boolean) (.code yX4_has cX4_has 2 (some .boolean) :: wd) rm_X4_has 0 0 1 := cwV9 1 ht wi_440 wi_438 wi_439 wi_56 hlink (by decide +kernel) rfl rfl hR
def rm_X4_topAt : Room := { frames := 1, cells := 0, slots := 0, locals := 21 }
def f_X4_topAt (nS : Nat) (zS : SumS) (a1 : Int32) : Option (Int64) := (f_X4_has nS zS a1).bind fun r_1 => if r_1 = 0 then some (0 : Int64) else if inb a1 nS = true then some (gS_tops zS a1.toNatClampNeg) else none
set_option maxHeartbeats 4000000 in
set_option maxRecDepth 100000 in
theorem b_X4_topAt_0 {p : Program} {l : Launch} {e : Env} {s : State} {m : MethodId} {args : Array Value} {below : List Frame} {meth : Method} {c : Code} {G : va_G} {cA : Nat → ClassId} (qS : Nat → Nat) (nS : Nat) (zS : SumS) (C0 : Amb p s m args meth c cX4_topAt RX4 2 (some .long) G cA (fun _ : Nat => False) ((wSum cA qS nS zS))) {res : Int64} : ∀ (a1 : Int32) (ls : Array Slot), lv_has ls 2 [(0, .ref (qS 0)), (1, .int a1)] → f_X4_topAt nS zS a1 = some res → W p l e rm_X4_topAt s m args below meth c s.heap [] 0 0 (MQ below (vp_Sl (fun x => x = res)) args s 0 0 (fun _ : Nat => False)) (F0 m 0 ls []) := by
  obtain ⟨hx, hb, hr, hml, hown, hts, hlocks, hK, hR, hRA⟩ := id C0
  intro a1 ls hl hf
  unfold f_X4_topAt at hf
  refine lv_aload_n hx hb dX4_topAt_0 rfl (lv_at hl 0 rfl) ?_
  refine lv_iload_n hx hb dX4_topAt_1 rfl (lv_at hl 1 rfl) ?_
  obtain ⟨r_1, hr_1, hf⟩ := obd hf
  refine cRiV (As := [.int a1]) (rest := []) ⟨hx, hb, hml, hown, hts⟩ (m_X4_has l G cA qS nS zS a1 r_1 hr_1) (cw_X4_has hts wi_437 ⟨Nat.le_of_ble_eq_true rfl, Nat.le_of_ble_eq_true rfl⟩) hK (pk hR [0, 1, 2, 3] rfl) (va_recv hK.1 hR (ci := 2) (q0 := 0) rfl rfl) rfl hl.1 rfl (Nat.le_of_ble_eq_true rfl) dX4_topAt_2 ⟨Nat.zero_le _, Nat.zero_le _⟩ ?_
  refine lv_if_eq (tgt := 17) hx hb dX4_topAt_5 (by decide) (fun c_2 => ?_) (fun c_2 => ?_)
  · rw [if_pos (c_2)] at hf
    refine lv_lconst (v := (0 : Int64)) hx hb dX4_topAt_17 (by decide) ?_
    cases hf
    exact W.lret hx hb hr (fun t ht hW => ⟨_, rfl, rfl, ht⟩) (fun q hq => by cases hq) dX4_topAt_18 hlocks
  · rw [if_neg (c_2)] at hf
    refine lv_aload_n hx hb dX4_topAt_8 rfl (lv_at hl 0 rfl) ?_
    refine va_get (D := G) (ci := 2) (v := .ref (qS 2)) (C := RX4) (T := TX4) (N := 6) hx hb hts fin_X4 hown hK.1 hR 0 rfl rfl 2 (by decide) (hts _ wi_86) (fun _ h9 => h9) rfl dX4_topAt_9 ?_
    refine lv_iload_n hx hb dX4_topAt_12 rfl (lv_at hl 1 rfl) ?_
    obtain ⟨hi_3, hf⟩ := oif hf
    refine va_lald hx hb hK.1 hR 2 1 rfl rfl (inb_in hi_3) dX4_topAt_13 ?_
    refine lv_goto (tgt := 18) hx hb dX4_topAt_14 (by decide) ?_
    cases hf
    exact W.lret hx hb hr (fun t ht hW => ⟨_, rfl, rfl, ht⟩) (fun q hq => by cases hq) dX4_topAt_18 hlocks

set_option maxRecDepth 100000 in
theorem m_X4_topAt (l : Launch) (G : va_G) (cA : Nat → ClassId) (qS : Nat → Nat) (nS : Nat) (zS : SumS) (a1 : Int32) (res : Int64) (hf : f_X4_topAt nS zS a1 = some res) : MRl l yX4_topAt (.code yX4_topAt cX4_topAt 2 (some .long) :: wd) rm_X4_topAt G cA [.ref (qS 0), .int a1] ((wSum cA qS nS zS)) res := by
  refine Met.ofW (cc := cX4_topAt) (maxL := 2) (ret := (some .long)) (by decide) rfl ?_
  intro p e s m args below meth c s₁ B hml hv
  obtain ⟨rfl, hK, hR⟩ := hv
  have C0 : Amb p s m ([.ref (qS 0), .int a1] : List Value).toArray meth c cX4_topAt RX4 2 (some .long) G cA (fun _ : Nat => False) ((wSum cA qS nS zS)) := ⟨B.exec, B.bytes, B.returns, hml, findClass_of_methodNamed B.named, fun w h => atoms_spec (ws := (.code yX4_topAt cX4_topAt 2 (some .long) :: wd)) B.pre w (List.mem_cons_of_mem _ h), B.notSynchronized, hK, hR, fun _ _ _ h => h⟩
  have hl := lv_entry ([.ref (qS 0), .int a1]) (n := 2) (Nat.le_of_ble_eq_true rfl)
  rw [lg_entry_eq]
  generalize (lg_sl ([.ref (qS 0), .int a1]) ++ List.replicate (2 - (lg_sl ([.ref (qS 0), .int a1])).length) Slot.unset).toArray = ls at hl ⊢
  have hl : lv_has ls 2 [(0, .ref (qS 0)), (1, .int a1)] := hl
  exact b_X4_topAt_0 qS nS  zS C0 a1 ls hl hf
theorem cw_X4_topAt {R : Room} {s : State} {args : Array Value} {own : String} {index : Nat} (ht : ∀ w ∈ wd, w.before args s = true) (hlink : Cond.methodLink own index yX4_topAt ∈ wd) (hR : rm_X4_topAt.frames + 1 ≤ R.frames ∧ 8 + (2 + 11) + rm_X4_topAt.locals ≤ R.locals) : CallW R s args own RX4 index yX4_topAt cX4_topAt 2 (some .long) (.code yX4_topAt cX4_topAt 2 (some .long) :: wd) rm_X4_topAt 0 0 1 := cwV9 1 ht wi_483 wi_481 wi_482 wi_56 hlink (by decide +kernel) rfl rfl hR
def rm_X4_bottomAt : Room := { frames := 1, cells := 0, slots := 0, locals := 21 }
def f_X4_bottomAt (nS : Nat) (zS : SumS) (a1 : Int32) : Option (Int64) := (f_X4_has nS zS a1).bind fun r_1 => if r_1 = 0 then some (1 : Int64) else if inb a1 nS = true then some (gS_bots zS a1.toNatClampNeg) else none
set_option maxHeartbeats 4000000 in
set_option maxRecDepth 100000 in
theorem b_X4_bottomAt_0 {p : Program} {l : Launch} {e : Env} {s : State} {m : MethodId} {args : Array Value} {below : List Frame} {meth : Method} {c : Code} {G : va_G} {cA : Nat → ClassId} (qS : Nat → Nat) (nS : Nat) (zS : SumS) (C0 : Amb p s m args meth c cX4_bottomAt RX4 2 (some .long) G cA (fun _ : Nat => False) ((wSum cA qS nS zS))) {res : Int64} : ∀ (a1 : Int32) (ls : Array Slot), lv_has ls 2 [(0, .ref (qS 0)), (1, .int a1)] → f_X4_bottomAt nS zS a1 = some res → W p l e rm_X4_bottomAt s m args below meth c s.heap [] 0 0 (MQ below (vp_Sl (fun x => x = res)) args s 0 0 (fun _ : Nat => False)) (F0 m 0 ls []) := by
  obtain ⟨hx, hb, hr, hml, hown, hts, hlocks, hK, hR, hRA⟩ := id C0
  intro a1 ls hl hf
  unfold f_X4_bottomAt at hf
  refine lv_aload_n hx hb dX4_bottomAt_0 rfl (lv_at hl 0 rfl) ?_
  refine lv_iload_n hx hb dX4_bottomAt_1 rfl (lv_at hl 1 rfl) ?_
  obtain ⟨r_1, hr_1, hf⟩ := obd hf
  refine cRiV (As := [.int a1]) (rest := []) ⟨hx, hb, hml, hown, hts⟩ (m_X4_has l G cA qS nS zS a1 r_1 hr_1) (cw_X4_has hts wi_437 ⟨Nat.le_of_ble_eq_true rfl, Nat.le_of_ble_eq_true rfl⟩) hK (pk hR [0, 1, 2, 3] rfl) (va_recv hK.1 hR (ci := 2) (q0 := 0) rfl rfl) rfl hl.1 rfl (Nat.le_of_ble_eq_true rfl) dX4_bottomAt_2 ⟨Nat.zero_le _, Nat.zero_le _⟩ ?_
  refine lv_if_eq (tgt := 17) hx hb dX4_bottomAt_5 (by decide) (fun c_2 => ?_) (fun c_2 => ?_)
  · rw [if_pos (c_2)] at hf
    refine lv_lconst (v := (1 : Int64)) hx hb dX4_bottomAt_17 (by decide) ?_
    cases hf
    exact W.lret hx hb hr (fun t ht hW => ⟨_, rfl, rfl, ht⟩) (fun q hq => by cases hq) dX4_bottomAt_18 hlocks
  · rw [if_neg (c_2)] at hf
    refine lv_aload_n hx hb dX4_bottomAt_8 rfl (lv_at hl 0 rfl) ?_
    refine va_get (D := G) (ci := 2) (v := .ref (qS 3)) (C := RX4) (T := TX4) (N := 6) hx hb hts fin_X4 hown hK.1 hR 0 rfl rfl 3 (by decide) (hts _ wi_87) (fun _ h9 => h9) rfl dX4_bottomAt_9 ?_
    refine lv_iload_n hx hb dX4_bottomAt_12 rfl (lv_at hl 1 rfl) ?_
    obtain ⟨hi_3, hf⟩ := oif hf
    refine va_lald hx hb hK.1 hR 3 1 rfl rfl (inb_in hi_3) dX4_bottomAt_13 ?_
    refine lv_goto (tgt := 18) hx hb dX4_bottomAt_14 (by decide) ?_
    cases hf
    exact W.lret hx hb hr (fun t ht hW => ⟨_, rfl, rfl, ht⟩) (fun q hq => by cases hq) dX4_bottomAt_18 hlocks

set_option maxRecDepth 100000 in
theorem m_X4_bottomAt (l : Launch) (G : va_G) (cA : Nat → ClassId) (qS : Nat → Nat) (nS : Nat) (zS : SumS) (a1 : Int32) (res : Int64) (hf : f_X4_bottomAt nS zS a1 = some res) : MRl l yX4_bottomAt (.code yX4_bottomAt cX4_bottomAt 2 (some .long) :: wd) rm_X4_bottomAt G cA [.ref (qS 0), .int a1] ((wSum cA qS nS zS)) res := by
  refine Met.ofW (cc := cX4_bottomAt) (maxL := 2) (ret := (some .long)) (by decide) rfl ?_
  intro p e s m args below meth c s₁ B hml hv
  obtain ⟨rfl, hK, hR⟩ := hv
  have C0 : Amb p s m ([.ref (qS 0), .int a1] : List Value).toArray meth c cX4_bottomAt RX4 2 (some .long) G cA (fun _ : Nat => False) ((wSum cA qS nS zS)) := ⟨B.exec, B.bytes, B.returns, hml, findClass_of_methodNamed B.named, fun w h => atoms_spec (ws := (.code yX4_bottomAt cX4_bottomAt 2 (some .long) :: wd)) B.pre w (List.mem_cons_of_mem _ h), B.notSynchronized, hK, hR, fun _ _ _ h => h⟩
  have hl := lv_entry ([.ref (qS 0), .int a1]) (n := 2) (Nat.le_of_ble_eq_true rfl)
  rw [lg_entry_eq]
  generalize (lg_sl ([.ref (qS 0), .int a1]) ++ List.replicate (2 - (lg_sl ([.ref (qS 0), .int a1])).length) Slot.unset).toArray = ls at hl ⊢
  have hl : lv_has ls 2 [(0, .ref (qS 0)), (1, .int a1)] := hl
  exact b_X4_bottomAt_0 qS nS  zS C0 a1 ls hl hf
theorem cw_X4_bottomAt {R : Room} {s : State} {args : Array Value} {own : String} {index : Nat} (ht : ∀ w ∈ wd, w.before args s = true) (hlink : Cond.methodLink own index yX4_bottomAt ∈ wd) (hR : rm_X4_bottomAt.frames + 1 ≤ R.frames ∧ 8 + (2 + 11) + rm_X4_bottomAt.locals ≤ R.locals) : CallW R s args own RX4 index yX4_bottomAt cX4_bottomAt 2 (some .long) (.code yX4_bottomAt cX4_bottomAt 2 (some .long) :: wd) rm_X4_bottomAt 0 0 1 := cwV9 1 ht wi_497 wi_495 wi_496 wi_56 hlink (by decide +kernel) rfl rfl hR
def rm_X4_kindAt : Room := { frames := 1, cells := 0, slots := 0, locals := 21 }
def f_X4_kindAt (nS : Nat) (zS : SumS) (a1 : Int32) : Option (Int32) := (f_X4_has nS zS a1).bind fun r_1 => if r_1 = 0 then some (0 : Int32) else if inb a1 nS = true then some ((gS_keys zS a1.toNatClampNeg) >>> ((11 : Int32) &&& 31)) else none
set_option maxHeartbeats 4000000 in
set_option maxRecDepth 100000 in
theorem b_X4_kindAt_0 {p : Program} {l : Launch} {e : Env} {s : State} {m : MethodId} {args : Array Value} {below : List Frame} {meth : Method} {c : Code} {G : va_G} {cA : Nat → ClassId} (qS : Nat → Nat) (nS : Nat) (zS : SumS) (C0 : Amb p s m args meth c cX4_kindAt RX4 2 (some .int) G cA (fun _ : Nat => False) ((wSum cA qS nS zS))) {res : Int32} : ∀ (a1 : Int32) (ls : Array Slot), lv_has ls 2 [(0, .ref (qS 0)), (1, .int a1)] → f_X4_kindAt nS zS a1 = some res → W p l e rm_X4_kindAt s m args below meth c s.heap [] 0 0 (MQ below (vp_Si (fun x => x = res)) args s 0 0 (fun _ : Nat => False)) (F0 m 0 ls []) := by
  obtain ⟨hx, hb, hr, hml, hown, hts, hlocks, hK, hR, hRA⟩ := id C0
  intro a1 ls hl hf
  unfold f_X4_kindAt at hf
  refine lv_aload_n hx hb dX4_kindAt_0 rfl (lv_at hl 0 rfl) ?_
  refine lv_iload_n hx hb dX4_kindAt_1 rfl (lv_at hl 1 rfl) ?_
  obtain ⟨r_1, hr_1, hf⟩ := obd hf
  refine cRiV (As := [.int a1]) (rest := []) ⟨hx, hb, hml, hown, hts⟩ (m_X4_has l G cA qS nS zS a1 r_1 hr_1) (cw_X4_has hts wi_437 ⟨Nat.le_of_ble_eq_true rfl, Nat.le_of_ble_eq_true rfl⟩) hK (pk hR [0, 1, 2, 3] rfl) (va_recv hK.1 hR (ci := 2) (q0 := 0) rfl rfl) rfl hl.1 rfl (Nat.le_of_ble_eq_true rfl) dX4_kindAt_2 ⟨Nat.zero_le _, Nat.zero_le _⟩ ?_
  refine lv_if_eq (tgt := 20) hx hb dX4_kindAt_5 (by decide) (fun c_2 => ?_) (fun c_2 => ?_)
  · rw [if_pos (c_2)] at hf
    refine lv_iconst (v := 0) hx hb dX4_kindAt_20 (by decide) ?_
    cases hf
    exact W.iret hx hb hr (fun t ht hW => ⟨_, rfl, rfl, ht⟩) (fun q hq => by cases hq) dX4_kindAt_21 hlocks
  · rw [if_neg (c_2)] at hf
    refine lv_aload_n hx hb dX4_kindAt_8 rfl (lv_at hl 0 rfl) ?_
    refine va_get (D := G) (ci := 2) (v := .ref (qS 1)) (C := RX4) (T := TX4) (N := 6) hx hb hts fin_X4 hown hK.1 hR 0 rfl rfl 1 (by decide) (hts _ wi_85) (fun _ h9 => h9) rfl dX4_kindAt_9 ?_
    refine lv_iload_n hx hb dX4_kindAt_12 rfl (lv_at hl 1 rfl) ?_
    obtain ⟨hi_3, hf⟩ := oif hf
    refine va_iald hx hb hK.1 hR 1 0 rfl rfl (inb_in hi_3) dX4_kindAt_13 ?_
    refine lv_bipush (v := (11 : Int32)) hx hb dX4_kindAt_14 (by decide) ?_
    refine lv_ishr hx hb dX4_kindAt_16 ?_
    refine lv_goto (tgt := 21) hx hb dX4_kindAt_17 (by decide) ?_
    cases hf
    exact W.iret hx hb hr (fun t ht hW => ⟨_, rfl, rfl, ht⟩) (fun q hq => by cases hq) dX4_kindAt_21 hlocks

set_option maxRecDepth 100000 in
theorem m_X4_kindAt (l : Launch) (G : va_G) (cA : Nat → ClassId) (qS : Nat → Nat) (nS : Nat) (zS : SumS) (a1 : Int32) (res : Int32) (hf : f_X4_kindAt nS zS a1 = some res) : MRi l yX4_kindAt (.code yX4_kindAt cX4_kindAt 2 (some .int) :: wd) rm_X4_kindAt G cA [.ref (qS 0), .int a1] ((wSum cA qS nS zS)) res := by
  refine Met.ofW (cc := cX4_kindAt) (maxL := 2) (ret := (some .int)) (by decide) rfl ?_
  intro p e s m args below meth c s₁ B hml hv
  obtain ⟨rfl, hK, hR⟩ := hv
  have C0 : Amb p s m ([.ref (qS 0), .int a1] : List Value).toArray meth c cX4_kindAt RX4 2 (some .int) G cA (fun _ : Nat => False) ((wSum cA qS nS zS)) := ⟨B.exec, B.bytes, B.returns, hml, findClass_of_methodNamed B.named, fun w h => atoms_spec (ws := (.code yX4_kindAt cX4_kindAt 2 (some .int) :: wd)) B.pre w (List.mem_cons_of_mem _ h), B.notSynchronized, hK, hR, fun _ _ _ h => h⟩
  have hl := lv_entry ([.ref (qS 0), .int a1]) (n := 2) (Nat.le_of_ble_eq_true rfl)
  rw [lg_entry_eq]
  generalize (lg_sl ([.ref (qS 0), .int a1]) ++ List.replicate (2 - (lg_sl ([.ref (qS 0), .int a1])).length) Slot.unset).toArray = ls at hl ⊢
  have hl : lv_has ls 2 [(0, .ref (qS 0)), (1, .int a1)] := hl
  exact b_X4_kindAt_0 qS nS  zS C0 a1 ls hl hf
theorem cw_X4_kindAt {R : Room} {s : State} {args : Array Value} {own : String} {index : Nat} (ht : ∀ w ∈ wd, w.before args s = true) (hlink : Cond.methodLink own index yX4_kindAt ∈ wd) (hR : rm_X4_kindAt.frames + 1 ≤ R.frames ∧ 8 + (2 + 11) + rm_X4_kindAt.locals ≤ R.locals) : CallW R s args own RX4 index yX4_kindAt cX4_kindAt 2 (some .int) (.code yX4_kindAt cX4_kindAt 2 (some .int) :: wd) rm_X4_kindAt 0 0 1 := cwV9 1 ht wi_491 wi_489 wi_490 wi_56 hlink (by decide +kernel) rfl rfl hR
def rm_X4_argumentAt : Room := { frames := 1, cells := 0, slots := 0, locals := 21 }
def f_X4_argumentAt (nS : Nat) (zS : SumS) (a1 : Int32) : Option (Int32) := (f_X4_has nS zS a1).bind fun r_1 => if r_1 = 0 then some (0 : Int32) else if inb a1 nS = true then some ((((gS_keys zS a1.toNatClampNeg) >>> ((6 : Int32) &&& 31)) &&& (31 : Int32)) - (16 : Int32)) else none
set_option maxHeartbeats 4000000 in
set_option maxRecDepth 100000 in
theorem b_X4_argumentAt_0 {p : Program} {l : Launch} {e : Env} {s : State} {m : MethodId} {args : Array Value} {below : List Frame} {meth : Method} {c : Code} {G : va_G} {cA : Nat → ClassId} (qS : Nat → Nat) (nS : Nat) (zS : SumS) (C0 : Amb p s m args meth c cX4_argumentAt RX4 2 (some .int) G cA (fun _ : Nat => False) ((wSum cA qS nS zS))) {res : Int32} : ∀ (a1 : Int32) (ls : Array Slot), lv_has ls 2 [(0, .ref (qS 0)), (1, .int a1)] → f_X4_argumentAt nS zS a1 = some res → W p l e rm_X4_argumentAt s m args below meth c s.heap [] 0 0 (MQ below (vp_Si (fun x => x = res)) args s 0 0 (fun _ : Nat => False)) (F0 m 0 ls []) := by
  obtain ⟨hx, hb, hr, hml, hown, hts, hlocks, hK, hR, hRA⟩ := id C0
  intro a1 ls hl hf
  unfold f_X4_argumentAt at hf
  refine lv_aload_n hx hb dX4_argumentAt_0 rfl (lv_at hl 0 rfl) ?_
  refine lv_iload_n hx hb dX4_argumentAt_1 rfl (lv_at hl 1 rfl) ?_
  obtain ⟨r_1, hr_1, hf⟩ := obd hf
  refine cRiV (As := [.int a1]) (rest := []) ⟨hx, hb, hml, hown, hts⟩ (m_X4_has l G cA qS nS zS a1 r_1 hr_1) (cw_X4_has hts wi_437 ⟨Nat.le_of_ble_eq_true rfl, Nat.le_of_ble_eq_true rfl⟩) hK (pk hR [0, 1, 2, 3] rfl) (va_recv hK.1 hR (ci := 2) (q0 := 0) rfl rfl) rfl hl.1 rfl (Nat.le_of_ble_eq_true rfl) dX4_argumentAt_2 ⟨Nat.zero_le _, Nat.zero_le _⟩ ?_
  refine lv_if_eq (tgt := 26) hx hb dX4_argumentAt_5 (by decide) (fun c_2 => ?_) (fun c_2 => ?_)
  · rw [if_pos (c_2)] at hf
    refine lv_iconst (v := 0) hx hb dX4_argumentAt_26 (by decide) ?_
    cases hf
    exact W.iret hx hb hr (fun t ht hW => ⟨_, rfl, rfl, ht⟩) (fun q hq => by cases hq) dX4_argumentAt_27 hlocks
  · rw [if_neg (c_2)] at hf
    refine lv_aload_n hx hb dX4_argumentAt_8 rfl (lv_at hl 0 rfl) ?_
    refine va_get (D := G) (ci := 2) (v := .ref (qS 1)) (C := RX4) (T := TX4) (N := 6) hx hb hts fin_X4 hown hK.1 hR 0 rfl rfl 1 (by decide) (hts _ wi_85) (fun _ h9 => h9) rfl dX4_argumentAt_9 ?_
    refine lv_iload_n hx hb dX4_argumentAt_12 rfl (lv_at hl 1 rfl) ?_
    obtain ⟨hi_3, hf⟩ := oif hf
    refine va_iald hx hb hK.1 hR 1 0 rfl rfl (inb_in hi_3) dX4_argumentAt_13 ?_
    refine lv_bipush (v := (6 : Int32)) hx hb dX4_argumentAt_14 (by decide) ?_
    refine lv_ishr hx hb dX4_argumentAt_16 ?_
    refine lv_bipush (v := (31 : Int32)) hx hb dX4_argumentAt_17 (by decide) ?_
    refine lv_iand hx hb dX4_argumentAt_19 ?_
    refine lv_bipush (v := (16 : Int32)) hx hb dX4_argumentAt_20 (by decide) ?_
    refine lv_isub hx hb dX4_argumentAt_22 ?_
    refine lv_goto (tgt := 27) hx hb dX4_argumentAt_23 (by decide) ?_
    cases hf
    exact W.iret hx hb hr (fun t ht hW => ⟨_, rfl, rfl, ht⟩) (fun q hq => by cases hq) dX4_argumentAt_27 hlocks

set_option maxRecDepth 100000 in
theorem m_X4_argumentAt (l : Launch) (G : va_G) (cA : Nat → ClassId) (qS : Nat → Nat) (nS : Nat) (zS : SumS) (a1 : Int32) (res : Int32) (hf : f_X4_argumentAt nS zS a1 = some res) : MRi l yX4_argumentAt (.code yX4_argumentAt cX4_argumentAt 2 (some .int) :: wd) rm_X4_argumentAt G cA [.ref (qS 0), .int a1] ((wSum cA qS nS zS)) res := by
  refine Met.ofW (cc := cX4_argumentAt) (maxL := 2) (ret := (some .int)) (by decide) rfl ?_
  intro p e s m args below meth c s₁ B hml hv
  obtain ⟨rfl, hK, hR⟩ := hv
  have C0 : Amb p s m ([.ref (qS 0), .int a1] : List Value).toArray meth c cX4_argumentAt RX4 2 (some .int) G cA (fun _ : Nat => False) ((wSum cA qS nS zS)) := ⟨B.exec, B.bytes, B.returns, hml, findClass_of_methodNamed B.named, fun w h => atoms_spec (ws := (.code yX4_argumentAt cX4_argumentAt 2 (some .int) :: wd)) B.pre w (List.mem_cons_of_mem _ h), B.notSynchronized, hK, hR, fun _ _ _ h => h⟩
  have hl := lv_entry ([.ref (qS 0), .int a1]) (n := 2) (Nat.le_of_ble_eq_true rfl)
  rw [lg_entry_eq]
  generalize (lg_sl ([.ref (qS 0), .int a1]) ++ List.replicate (2 - (lg_sl ([.ref (qS 0), .int a1])).length) Slot.unset).toArray = ls at hl ⊢
  have hl : lv_has ls 2 [(0, .ref (qS 0)), (1, .int a1)] := hl
  exact b_X4_argumentAt_0 qS nS  zS C0 a1 ls hl hf
theorem cw_X4_argumentAt {R : Room} {s : State} {args : Array Value} {own : String} {index : Nat} (ht : ∀ w ∈ wd, w.before args s = true) (hlink : Cond.methodLink own index yX4_argumentAt ∈ wd) (hR : rm_X4_argumentAt.frames + 1 ≤ R.frames ∧ 8 + (2 + 11) + rm_X4_argumentAt.locals ≤ R.locals) : CallW R s args own RX4 index yX4_argumentAt cX4_argumentAt 2 (some .int) (.code yX4_argumentAt cX4_argumentAt 2 (some .int) :: wd) rm_X4_argumentAt 0 0 1 := cwV9 1 ht wi_447 wi_445 wi_446 wi_56 hlink (by decide +kernel) rfl rfl hR
def rm_X4_powerAt : Room := { frames := 1, cells := 0, slots := 0, locals := 21 }
def f_X4_powerAt (nS : Nat) (zS : SumS) (a1 : Int32) : Option (Int32) := (f_X4_has nS zS a1).bind fun r_1 => if r_1 = 0 then some (0 : Int32) else if inb a1 nS = true then some ((31 : Int32) - ((gS_keys zS a1.toNatClampNeg) &&& (63 : Int32))) else none
set_option maxHeartbeats 4000000 in
set_option maxRecDepth 100000 in
theorem b_X4_powerAt_0 {p : Program} {l : Launch} {e : Env} {s : State} {m : MethodId} {args : Array Value} {below : List Frame} {meth : Method} {c : Code} {G : va_G} {cA : Nat → ClassId} (qS : Nat → Nat) (nS : Nat) (zS : SumS) (C0 : Amb p s m args meth c cX4_powerAt RX4 2 (some .int) G cA (fun _ : Nat => False) ((wSum cA qS nS zS))) {res : Int32} : ∀ (a1 : Int32) (ls : Array Slot), lv_has ls 2 [(0, .ref (qS 0)), (1, .int a1)] → f_X4_powerAt nS zS a1 = some res → W p l e rm_X4_powerAt s m args below meth c s.heap [] 0 0 (MQ below (vp_Si (fun x => x = res)) args s 0 0 (fun _ : Nat => False)) (F0 m 0 ls []) := by
  obtain ⟨hx, hb, hr, hml, hown, hts, hlocks, hK, hR, hRA⟩ := id C0
  intro a1 ls hl hf
  unfold f_X4_powerAt at hf
  refine lv_aload_n hx hb dX4_powerAt_0 rfl (lv_at hl 0 rfl) ?_
  refine lv_iload_n hx hb dX4_powerAt_1 rfl (lv_at hl 1 rfl) ?_
  obtain ⟨r_1, hr_1, hf⟩ := obd hf
  refine cRiV (As := [.int a1]) (rest := []) ⟨hx, hb, hml, hown, hts⟩ (m_X4_has l G cA qS nS zS a1 r_1 hr_1) (cw_X4_has hts wi_437 ⟨Nat.le_of_ble_eq_true rfl, Nat.le_of_ble_eq_true rfl⟩) hK (pk hR [0, 1, 2, 3] rfl) (va_recv hK.1 hR (ci := 2) (q0 := 0) rfl rfl) rfl hl.1 rfl (Nat.le_of_ble_eq_true rfl) dX4_powerAt_2 ⟨Nat.zero_le _, Nat.zero_le _⟩ ?_
  refine lv_if_eq (tgt := 23) hx hb dX4_powerAt_5 (by decide) (fun c_2 => ?_) (fun c_2 => ?_)
  · rw [if_pos (c_2)] at hf
    refine lv_iconst (v := 0) hx hb dX4_powerAt_23 (by decide) ?_
    cases hf
    exact W.iret hx hb hr (fun t ht hW => ⟨_, rfl, rfl, ht⟩) (fun q hq => by cases hq) dX4_powerAt_24 hlocks
  · rw [if_neg (c_2)] at hf
    refine lv_bipush (v := (31 : Int32)) hx hb dX4_powerAt_8 (by decide) ?_
    refine lv_aload_n hx hb dX4_powerAt_10 rfl (lv_at hl 0 rfl) ?_
    refine va_get (D := G) (ci := 2) (v := .ref (qS 1)) (C := RX4) (T := TX4) (N := 6) hx hb hts fin_X4 hown hK.1 hR 0 rfl rfl 1 (by decide) (hts _ wi_85) (fun _ h9 => h9) rfl dX4_powerAt_11 ?_
    refine lv_iload_n hx hb dX4_powerAt_14 rfl (lv_at hl 1 rfl) ?_
    obtain ⟨hi_3, hf⟩ := oif hf
    refine va_iald hx hb hK.1 hR 1 0 rfl rfl (inb_in hi_3) dX4_powerAt_15 ?_
    refine lv_bipush (v := (63 : Int32)) hx hb dX4_powerAt_16 (by decide) ?_
    refine lv_iand hx hb dX4_powerAt_18 ?_
    refine lv_isub hx hb dX4_powerAt_19 ?_
    refine lv_goto (tgt := 24) hx hb dX4_powerAt_20 (by decide) ?_
    cases hf
    exact W.iret hx hb hr (fun t ht hW => ⟨_, rfl, rfl, ht⟩) (fun q hq => by cases hq) dX4_powerAt_24 hlocks

set_option maxRecDepth 100000 in
theorem m_X4_powerAt (l : Launch) (G : va_G) (cA : Nat → ClassId) (qS : Nat → Nat) (nS : Nat) (zS : SumS) (a1 : Int32) (res : Int32) (hf : f_X4_powerAt nS zS a1 = some res) : MRi l yX4_powerAt (.code yX4_powerAt cX4_powerAt 2 (some .int) :: wd) rm_X4_powerAt G cA [.ref (qS 0), .int a1] ((wSum cA qS nS zS)) res := by
  refine Met.ofW (cc := cX4_powerAt) (maxL := 2) (ret := (some .int)) (by decide) rfl ?_
  intro p e s m args below meth c s₁ B hml hv
  obtain ⟨rfl, hK, hR⟩ := hv
  have C0 : Amb p s m ([.ref (qS 0), .int a1] : List Value).toArray meth c cX4_powerAt RX4 2 (some .int) G cA (fun _ : Nat => False) ((wSum cA qS nS zS)) := ⟨B.exec, B.bytes, B.returns, hml, findClass_of_methodNamed B.named, fun w h => atoms_spec (ws := (.code yX4_powerAt cX4_powerAt 2 (some .int) :: wd)) B.pre w (List.mem_cons_of_mem _ h), B.notSynchronized, hK, hR, fun _ _ _ h => h⟩
  have hl := lv_entry ([.ref (qS 0), .int a1]) (n := 2) (Nat.le_of_ble_eq_true rfl)
  rw [lg_entry_eq]
  generalize (lg_sl ([.ref (qS 0), .int a1]) ++ List.replicate (2 - (lg_sl ([.ref (qS 0), .int a1])).length) Slot.unset).toArray = ls at hl ⊢
  have hl : lv_has ls 2 [(0, .ref (qS 0)), (1, .int a1)] := hl
  exact b_X4_powerAt_0 qS nS  zS C0 a1 ls hl hf
theorem cw_X4_powerAt {R : Room} {s : State} {args : Array Value} {own : String} {index : Nat} (ht : ∀ w ∈ wd, w.before args s = true) (hlink : Cond.methodLink own index yX4_powerAt ∈ wd) (hR : rm_X4_powerAt.frames + 1 ≤ R.frames ∧ 8 + (2 + 11) + rm_X4_powerAt.locals ≤ R.locals) : CallW R s args own RX4 index yX4_powerAt cX4_powerAt 2 (some .int) (.code yX4_powerAt cX4_powerAt 2 (some .int) :: wd) rm_X4_powerAt 0 0 1 := cwV9 1 ht wi_436 wi_434 wi_435 wi_56 hlink (by decide +kernel) rfl rfl hR
def rm_X4_placeFor : Room := { frames := 0, cells := 0, slots := 0, locals := 0 }
def f_X4_placeFor_2 (nS : Nat) (zS : SumS) : Nat → Int32 → Int32 → Option (Int32)
  | 0, _, _ => none
  | fu + 1, x1, x2 => if (gS_size zS) ≤ x2 then some x2 else if inb x2 nS = true then if x1 ≤ (gS_keys zS x2.toNatClampNeg) then some x2 else f_X4_placeFor_2 nS zS fu x1 (x2 + 1) else none
set_option maxHeartbeats 4000000 in
set_option maxRecDepth 100000 in
theorem b_X4_placeFor_2 {p : Program} {l : Launch} {e : Env} {s : State} {m : MethodId} {args : Array Value} {below : List Frame} {meth : Method} {c : Code} {G : va_G} {cA : Nat → ClassId} (qS : Nat → Nat) (nS : Nat) (zS : SumS) (C0 : Amb p s m args meth c cX4_placeFor RX4 3 (some .int) G cA (fun _ : Nat => False) ((wSum cA qS nS zS))) {res : Int32} : ∀ (fu : Nat) (x1 : Int32) (x2 : Int32) (ls : Array Slot), lv_has ls 3 [(0, .ref (qS 0)), (1, .int x1), (2, .int x2)] → f_X4_placeFor_2 nS zS fu x1 x2 = some res → W p l e rm_X4_placeFor s m args below meth c s.heap [] 0 0 (MQ below (vp_Si (fun x => x = res)) args s 0 0 (fun _ : Nat => False)) (F0 m 2 ls []) := by
  obtain ⟨hx, hb, hr, hml, hown, hts, hlocks, hK, hR, hRA⟩ := id C0
  intro fu
  induction fu with
  | zero =>
    intro x1 x2 ls hl hf
    rw [f_X4_placeFor_2] at hf
    cases hf
  | succ fu ih =>
    intro x1 x2 ls hl hf
    rw [f_X4_placeFor_2] at hf
    refine lv_iload_n hx hb dX4_placeFor_2 rfl (lv_at hl 2 rfl) ?_
    refine lv_aload_n hx hb dX4_placeFor_3 rfl (lv_at hl 0 rfl) ?_
    refine va_get (D := G) (ci := 2) (v := .int (gS_size zS)) (C := RX4) (T := TX4) (N := 6) hx hb hts fin_X4 hown hK.1 hR 0 rfl rfl 4 (by decide) (hts _ wi_88) (fun _ h9 => h9) rfl dX4_placeFor_4 ?_
    refine lv_icmp_ge (tgt := 26) hx hb dX4_placeFor_7 (by decide) (fun c_1 => ?_) (fun c_1 => ?_)
    · rw [if_pos (c_1)] at hf
      refine lv_iload_n hx hb dX4_placeFor_26 rfl (lv_at hl 2 rfl) ?_
      cases hf
      exact W.iret hx hb hr (fun t ht hW => ⟨_, rfl, rfl, ht⟩) (fun q hq => by cases hq) dX4_placeFor_27 hlocks
    · rw [if_neg (c_1)] at hf
      refine lv_aload_n hx hb dX4_placeFor_10 rfl (lv_at hl 0 rfl) ?_
      refine va_get (D := G) (ci := 2) (v := .ref (qS 1)) (C := RX4) (T := TX4) (N := 6) hx hb hts fin_X4 hown hK.1 hR 0 rfl rfl 1 (by decide) (hts _ wi_85) (fun _ h9 => h9) rfl dX4_placeFor_11 ?_
      refine lv_iload_n hx hb dX4_placeFor_14 rfl (lv_at hl 2 rfl) ?_
      obtain ⟨hi_2, hf⟩ := oif hf
      refine va_iald hx hb hK.1 hR 1 0 rfl rfl (inb_in hi_2) dX4_placeFor_15 ?_
      refine lv_iload_n hx hb dX4_placeFor_16 rfl (lv_at hl 1 rfl) ?_
      refine lv_icmp_ge (tgt := 26) hx hb dX4_placeFor_17 (by decide) (fun c_3 => ?_) (fun c_3 => ?_)
      · rw [if_pos (c_3)] at hf
        refine lv_iload_n hx hb dX4_placeFor_26 rfl (lv_at hl 2 rfl) ?_
        cases hf
        exact W.iret hx hb hr (fun t ht hW => ⟨_, rfl, rfl, ht⟩) (fun q hq => by cases hq) dX4_placeFor_27 hlocks
      · rw [if_neg (c_3)] at hf
        refine lv_iinc (v := (x2 + 1)) (lv' := [(2, .int (x2 + 1)), (0, .ref (qS 0)), (1, .int x1)]) hx hb dX4_placeFor_20 hl (k := 2) rfl rfl (by decide) rfl (fun ls hl => ?_)
        refine lv_goto (tgt := 2) hx hb dX4_placeFor_23 (by decide) ?_
        exact ih x1 (x2 + 1) ls (lv_sub hl [1, 2, 0] rfl) hf
def f_X4_placeFor (nS : Nat) (zS : SumS) (a1 : Int32) : Option (Int32) := f_X4_placeFor_2 nS zS fuel a1 (0 : Int32)
set_option maxHeartbeats 4000000 in
set_option maxRecDepth 100000 in
theorem b_X4_placeFor_0 {p : Program} {l : Launch} {e : Env} {s : State} {m : MethodId} {args : Array Value} {below : List Frame} {meth : Method} {c : Code} {G : va_G} {cA : Nat → ClassId} (qS : Nat → Nat) (nS : Nat) (zS : SumS) (C0 : Amb p s m args meth c cX4_placeFor RX4 3 (some .int) G cA (fun _ : Nat => False) ((wSum cA qS nS zS))) {res : Int32} : ∀ (a1 : Int32) (ls : Array Slot), lv_has ls 3 [(0, .ref (qS 0)), (1, .int a1)] → f_X4_placeFor nS zS a1 = some res → W p l e rm_X4_placeFor s m args below meth c s.heap [] 0 0 (MQ below (vp_Si (fun x => x = res)) args s 0 0 (fun _ : Nat => False)) (F0 m 0 ls []) := by
  obtain ⟨hx, hb, hr, hml, hown, hts, hlocks, hK, hR, hRA⟩ := id C0
  intro a1 ls hl hf
  unfold f_X4_placeFor at hf
  refine lv_iconst (v := 0) hx hb dX4_placeFor_0 (by decide) ?_
  refine lv_istore_n (lv' := [(2, .int (0 : Int32)), (0, .ref (qS 0)), (1, .int a1)]) hx hb dX4_placeFor_1 rfl hl (by decide) rfl (fun ls hl => ?_)
  exact b_X4_placeFor_2 qS nS  zS C0  fuel a1 (0 : Int32) ls (lv_sub hl [1, 2, 0] rfl) hf

set_option maxRecDepth 100000 in
theorem m_X4_placeFor (l : Launch) (G : va_G) (cA : Nat → ClassId) (qS : Nat → Nat) (nS : Nat) (zS : SumS) (a1 : Int32) (res : Int32) (hf : f_X4_placeFor nS zS a1 = some res) : MRi l yX4_placeFor (.code yX4_placeFor cX4_placeFor 3 (some .int) :: wd) rm_X4_placeFor G cA [.ref (qS 0), .int a1] ((wSum cA qS nS zS)) res := by
  refine Met.ofW (cc := cX4_placeFor) (maxL := 3) (ret := (some .int)) (by decide) rfl ?_
  intro p e s m args below meth c s₁ B hml hv
  obtain ⟨rfl, hK, hR⟩ := hv
  have C0 : Amb p s m ([.ref (qS 0), .int a1] : List Value).toArray meth c cX4_placeFor RX4 3 (some .int) G cA (fun _ : Nat => False) ((wSum cA qS nS zS)) := ⟨B.exec, B.bytes, B.returns, hml, findClass_of_methodNamed B.named, fun w h => atoms_spec (ws := (.code yX4_placeFor cX4_placeFor 3 (some .int) :: wd)) B.pre w (List.mem_cons_of_mem _ h), B.notSynchronized, hK, hR, fun _ _ _ h => h⟩
  have hl := lv_entry ([.ref (qS 0), .int a1]) (n := 3) (Nat.le_of_ble_eq_true rfl)
  rw [lg_entry_eq]
  generalize (lg_sl ([.ref (qS 0), .int a1]) ++ List.replicate (3 - (lg_sl ([.ref (qS 0), .int a1])).length) Slot.unset).toArray = ls at hl ⊢
  have hl : lv_has ls 3 [(0, .ref (qS 0)), (1, .int a1)] := hl
  exact b_X4_placeFor_0 qS nS  zS C0 a1 ls hl hf
theorem cw_X4_placeFor {R : Room} {s : State} {args : Array Value} {own : String} {index : Nat} (ht : ∀ w ∈ wd, w.before args s = true) (hlink : Cond.methodLink own index yX4_placeFor ∈ wd) (hR : rm_X4_placeFor.frames + 1 ≤ R.frames ∧ 8 + (3 + 11) + rm_X4_placeFor.locals ≤ R.locals) : CallW R s args own RX4 index yX4_placeFor cX4_placeFor 3 (some .int) (.code yX4_placeFor cX4_placeFor 3 (some .int) :: wd) rm_X4_placeFor 0 0 1 := cwV9 1 ht wi_404 wi_403 wi_14 wi_56 hlink (by decide +kernel) rfl rfl hR
def rm_X4_isWithin : Room := { frames := 2, cells := 0, slots := 0, locals := 42 }
def f_X4_isWithin_3 (nS : Nat) (zS : SumS) : Nat → Int64 → Int64 → Int32 → Int32 → Int32 → Option (Int32)
  | 0, _, _, _, _, _ => none
  | fu + 1, x1, x3, x5, x6, x7 => if (gS_size zS) ≤ x7 then some (1 : Int32) else if inb x7 nS = true then if x1 < (mabs64 (gS_tops zS x7.toNatClampNeg)) then some (0 : Int32) else if inb x7 nS = true then if x3 < (gS_bots zS x7.toNatClampNeg) then some (0 : Int32) else (f_X4_powerAt nS zS x7).bind fun r_6 => if x5 < (mabs32 r_6) then some (0 : Int32) else (f_X4_argumentAt nS zS x7).bind fun r_8 => if (mabs32 r_8) ≤ x6 then f_X4_isWithin_3 nS zS fu x1 x3 x5 x6 (x7 + 1) else some (0 : Int32) else none else none
set_option maxHeartbeats 4000000 in
set_option maxRecDepth 100000 in
theorem b_X4_isWithin_3 {p : Program} {l : Launch} {e : Env} {s : State} {m : MethodId} {args : Array Value} {below : List Frame} {meth : Method} {c : Code} {G : va_G} {cA : Nat → ClassId} (qS : Nat → Nat) (nS : Nat) (zS : SumS) (C0 : Amb p s m args meth c cX4_isWithin RX4 8 (some .boolean) G cA (fun _ : Nat => False) ((wSum cA qS nS zS))) {res : Int32} : ∀ (fu : Nat) (x1 : Int64) (x3 : Int64) (x5 : Int32) (x6 : Int32) (x7 : Int32) (ls : Array Slot), lv_has ls 8 [(0, .ref (qS 0)), (1, .long x1), (3, .long x3), (5, .int x5), (6, .int x6), (7, .int x7)] → f_X4_isWithin_3 nS zS fu x1 x3 x5 x6 x7 = some res → W p l e rm_X4_isWithin s m args below meth c s.heap [] 0 0 (MQ below (vp_Si (fun x => x = res)) args s 0 0 (fun _ : Nat => False)) (F0 m 3 ls []) := by
  obtain ⟨hx, hb, hr, hml, hown, hts, hlocks, hK, hR, hRA⟩ := id C0
  intro fu
  induction fu with
  | zero =>
    intro x1 x3 x5 x6 x7 ls hl hf
    rw [f_X4_isWithin_3] at hf
    cases hf
  | succ fu ih =>
    intro x1 x3 x5 x6 x7 ls hl hf
    rw [f_X4_isWithin_3] at hf
    refine lv_iload hx hb dX4_isWithin_3 (lv_at hl 5 rfl) ?_
    refine lv_aload_n hx hb dX4_isWithin_5 rfl (lv_at hl 0 rfl) ?_
    refine va_get (D := G) (ci := 2) (v := .int (gS_size zS)) (C := RX4) (T := TX4) (N := 6) hx hb hts fin_X4 hown hK.1 hR 0 rfl rfl 4 (by decide) (hts _ wi_88) (fun _ h9 => h9) rfl dX4_isWithin_6 ?_
    refine lv_icmp_ge (tgt := 75) hx hb dX4_isWithin_9 (by decide) (fun c_1 => ?_) (fun c_1 => ?_)
    · rw [if_pos (c_1)] at hf
      refine lv_iconst (v := 1) hx hb dX4_isWithin_75 (by decide) ?_
      cases hf
      exact W.zret hx hb hr (by decide) (fun t ht hW => ⟨_, rfl, rfl, ht⟩) (fun q hq => by cases hq) dX4_isWithin_76 hlocks
    · rw [if_neg (c_1)] at hf
      refine lv_aload_n hx hb dX4_isWithin_12 rfl (lv_at hl 0 rfl) ?_
      refine va_get (D := G) (ci := 2) (v := .ref (qS 2)) (C := RX4) (T := TX4) (N := 6) hx hb hts fin_X4 hown hK.1 hR 0 rfl rfl 2 (by decide) (hts _ wi_86) (fun _ h9 => h9) rfl dX4_isWithin_13 ?_
      refine lv_iload hx hb dX4_isWithin_16 (lv_at hl 5 rfl) ?_
      obtain ⟨hi_2, hf⟩ := oif hf
      refine va_lald hx hb hK.1 hR 2 1 rfl rfl (inb_in hi_2) dX4_isWithin_18 ?_
      refine k_abs64 hx hb (hml.trans hl.1.symm) hown hts wi_417 (Nat.le_of_ble_eq_true rfl) (Nat.le_of_ble_eq_true rfl) (Nat.zero_le _) (Nat.zero_le _) dX4_isWithin_19 ?_
      refine lv_lload_n hx hb dX4_isWithin_22 rfl (lv_at hl 1 rfl) ?_
      refine W.lcmp hx hb dX4_isWithin_23 ?_
      refine lv_if_gt (tgt := 67) hx hb dX4_isWithin_24 (by decide) (fun c_3 => ?_) (fun c_3 => ?_)
      · rw [if_pos ((lg_cmp_gt _ _).mp c_3)] at hf
        refine lv_iconst (v := 0) hx hb dX4_isWithin_67 (by decide) ?_
        cases hf
        exact W.zret hx hb hr (by decide) (fun t ht hW => ⟨_, rfl, rfl, ht⟩) (fun q hq => by cases hq) dX4_isWithin_68 hlocks
      · rw [if_neg (fun h => c_3 ((lg_cmp_gt _ _).mpr h))] at hf
        refine lv_aload_n hx hb dX4_isWithin_27 rfl (lv_at hl 0 rfl) ?_
        refine va_get (D := G) (ci := 2) (v := .ref (qS 3)) (C := RX4) (T := TX4) (N := 6) hx hb hts fin_X4 hown hK.1 hR 0 rfl rfl 3 (by decide) (hts _ wi_87) (fun _ h9 => h9) rfl dX4_isWithin_28 ?_
        refine lv_iload hx hb dX4_isWithin_31 (lv_at hl 5 rfl) ?_
        obtain ⟨hi_4, hf⟩ := oif hf
        refine va_lald hx hb hK.1 hR 3 1 rfl rfl (inb_in hi_4) dX4_isWithin_33 ?_
        refine lv_lload_n hx hb dX4_isWithin_34 rfl (lv_at hl 2 rfl) ?_
        refine W.lcmp hx hb dX4_isWithin_35 ?_
        refine lv_if_gt (tgt := 67) hx hb dX4_isWithin_36 (by decide) (fun c_5 => ?_) (fun c_5 => ?_)
        · rw [if_pos ((lg_cmp_gt _ _).mp c_5)] at hf
          refine lv_iconst (v := 0) hx hb dX4_isWithin_67 (by decide) ?_
          cases hf
          exact W.zret hx hb hr (by decide) (fun t ht hW => ⟨_, rfl, rfl, ht⟩) (fun q hq => by cases hq) dX4_isWithin_68 hlocks
        · rw [if_neg (fun h => c_5 ((lg_cmp_gt _ _).mpr h))] at hf
          refine lv_aload_n hx hb dX4_isWithin_39 rfl (lv_at hl 0 rfl) ?_
          refine lv_iload hx hb dX4_isWithin_40 (lv_at hl 5 rfl) ?_
          obtain ⟨r_6, hr_6, hf⟩ := obd hf
          refine cRiV (As := [.int x7]) (rest := []) ⟨hx, hb, hml, hown, hts⟩ (m_X4_powerAt l G cA qS nS zS x7 r_6 hr_6) (cw_X4_powerAt hts wi_433 ⟨Nat.le_of_ble_eq_true rfl, Nat.le_of_ble_eq_true rfl⟩) hK (pk hR [0, 1, 2, 3] rfl) (va_recv hK.1 hR (ci := 2) (q0 := 0) rfl rfl) rfl hl.1 rfl (Nat.le_of_ble_eq_true rfl) dX4_isWithin_42 ⟨Nat.zero_le _, Nat.zero_le _⟩ ?_
          refine k_abs32 hx hb (hml.trans hl.1.symm) hown hts wi_441 (Nat.le_of_ble_eq_true rfl) (Nat.le_of_ble_eq_true rfl) (Nat.zero_le _) (Nat.zero_le _) dX4_isWithin_45 ?_
          refine lv_iload hx hb dX4_isWithin_48 (lv_at hl 3 rfl) ?_
          refine lv_icmp_gt (tgt := 67) hx hb dX4_isWithin_50 (by decide) (fun c_7 => ?_) (fun c_7 => ?_)
          · rw [if_pos (c_7)] at hf
            refine lv_iconst (v := 0) hx hb dX4_isWithin_67 (by decide) ?_
            cases hf
            exact W.zret hx hb hr (by decide) (fun t ht hW => ⟨_, rfl, rfl, ht⟩) (fun q hq => by cases hq) dX4_isWithin_68 hlocks
          · rw [if_neg (c_7)] at hf
            refine lv_aload_n hx hb dX4_isWithin_53 rfl (lv_at hl 0 rfl) ?_
            refine lv_iload hx hb dX4_isWithin_54 (lv_at hl 5 rfl) ?_
            obtain ⟨r_8, hr_8, hf⟩ := obd hf
            refine cRiV (As := [.int x7]) (rest := []) ⟨hx, hb, hml, hown, hts⟩ (m_X4_argumentAt l G cA qS nS zS x7 r_8 hr_8) (cw_X4_argumentAt hts wi_444 ⟨Nat.le_of_ble_eq_true rfl, Nat.le_of_ble_eq_true rfl⟩) hK (pk hR [0, 1, 2, 3] rfl) (va_recv hK.1 hR (ci := 2) (q0 := 0) rfl rfl) rfl hl.1 rfl (Nat.le_of_ble_eq_true rfl) dX4_isWithin_56 ⟨Nat.zero_le _, Nat.zero_le _⟩ ?_
            refine k_abs32 hx hb (hml.trans hl.1.symm) hown hts wi_441 (Nat.le_of_ble_eq_true rfl) (Nat.le_of_ble_eq_true rfl) (Nat.zero_le _) (Nat.zero_le _) dX4_isWithin_59 ?_
            refine lv_iload hx hb dX4_isWithin_62 (lv_at hl 4 rfl) ?_
            refine lv_icmp_le (tgt := 69) hx hb dX4_isWithin_64 (by decide) (fun c_9 => ?_) (fun c_9 => ?_)
            · rw [if_pos (c_9)] at hf
              refine lv_iinc (v := (x7 + 1)) (lv' := [(7, .int (x7 + 1)), (0, .ref (qS 0)), (1, .long x1), (3, .long x3), (5, .int x5), (6, .int x6)]) hx hb dX4_isWithin_69 hl (k := 5) rfl rfl (by decide) rfl (fun ls hl => ?_)
              refine lv_goto (tgt := 3) hx hb dX4_isWithin_72 (by decide) ?_
              exact ih x1 x3 x5 x6 (x7 + 1) ls (lv_sub hl [1, 2, 3, 4, 5, 0] rfl) hf
            · rw [if_neg (c_9)] at hf
              refine lv_iconst (v := 0) hx hb dX4_isWithin_67 (by decide) ?_
              cases hf
              exact W.zret hx hb hr (by decide) (fun t ht hW => ⟨_, rfl, rfl, ht⟩) (fun q hq => by cases hq) dX4_isWithin_68 hlocks
def f_X4_isWithin (nS : Nat) (zS : SumS) (a1 : Int64) (a3 : Int64) (a5 : Int32) (a6 : Int32) : Option (Int32) := f_X4_isWithin_3 nS zS fuel a1 a3 a5 a6 (0 : Int32)
set_option maxHeartbeats 4000000 in
set_option maxRecDepth 100000 in
theorem b_X4_isWithin_0 {p : Program} {l : Launch} {e : Env} {s : State} {m : MethodId} {args : Array Value} {below : List Frame} {meth : Method} {c : Code} {G : va_G} {cA : Nat → ClassId} (qS : Nat → Nat) (nS : Nat) (zS : SumS) (C0 : Amb p s m args meth c cX4_isWithin RX4 8 (some .boolean) G cA (fun _ : Nat => False) ((wSum cA qS nS zS))) {res : Int32} : ∀ (a1 : Int64) (a3 : Int64) (a5 : Int32) (a6 : Int32) (ls : Array Slot), lv_has ls 8 [(0, .ref (qS 0)), (1, .long a1), (3, .long a3), (5, .int a5), (6, .int a6)] → f_X4_isWithin nS zS a1 a3 a5 a6 = some res → W p l e rm_X4_isWithin s m args below meth c s.heap [] 0 0 (MQ below (vp_Si (fun x => x = res)) args s 0 0 (fun _ : Nat => False)) (F0 m 0 ls []) := by
  obtain ⟨hx, hb, hr, hml, hown, hts, hlocks, hK, hR, hRA⟩ := id C0
  intro a1 a3 a5 a6 ls hl hf
  unfold f_X4_isWithin at hf
  refine lv_iconst (v := 0) hx hb dX4_isWithin_0 (by decide) ?_
  refine lv_istore (lv' := [(7, .int (0 : Int32)), (0, .ref (qS 0)), (1, .long a1), (3, .long a3), (5, .int a5), (6, .int a6)]) hx hb dX4_isWithin_1 hl (by decide) rfl (fun ls hl => ?_)
  exact b_X4_isWithin_3 qS nS  zS C0  fuel a1 a3 a5 a6 (0 : Int32) ls (lv_sub hl [1, 2, 3, 4, 5, 0] rfl) hf

set_option maxRecDepth 100000 in
theorem m_X4_isWithin (l : Launch) (G : va_G) (cA : Nat → ClassId) (qS : Nat → Nat) (nS : Nat) (zS : SumS) (a1 : Int64) (a3 : Int64) (a5 : Int32) (a6 : Int32) (res : Int32) (hf : f_X4_isWithin nS zS a1 a3 a5 a6 = some res) : MRi l yX4_isWithin (.code yX4_isWithin cX4_isWithin 8 (some .boolean) :: wd) rm_X4_isWithin G cA [.ref (qS 0), .long a1, .long a3, .int a5, .int a6] ((wSum cA qS nS zS)) res := by
  refine Met.ofW (cc := cX4_isWithin) (maxL := 8) (ret := (some .boolean)) (by decide) rfl ?_
  intro p e s m args below meth c s₁ B hml hv
  obtain ⟨rfl, hK, hR⟩ := hv
  have C0 : Amb p s m ([.ref (qS 0), .long a1, .long a3, .int a5, .int a6] : List Value).toArray meth c cX4_isWithin RX4 8 (some .boolean) G cA (fun _ : Nat => False) ((wSum cA qS nS zS)) := ⟨B.exec, B.bytes, B.returns, hml, findClass_of_methodNamed B.named, fun w h => atoms_spec (ws := (.code yX4_isWithin cX4_isWithin 8 (some .boolean) :: wd)) B.pre w (List.mem_cons_of_mem _ h), B.notSynchronized, hK, hR, fun _ _ _ h => h⟩
  have hl := lv_entry ([.ref (qS 0), .long a1, .long a3, .int a5, .int a6]) (n := 8) (Nat.le_of_ble_eq_true rfl)
  rw [lg_entry_eq]
  generalize (lg_sl ([.ref (qS 0), .long a1, .long a3, .int a5, .int a6]) ++ List.replicate (8 - (lg_sl ([.ref (qS 0), .long a1, .long a3, .int a5, .int a6])).length) Slot.unset).toArray = ls at hl ⊢
  have hl : lv_has ls 8 [(0, .ref (qS 0)), (1, .long a1), (3, .long a3), (5, .int a5), (6, .int a6)] := hl
  exact b_X4_isWithin_0 qS nS  zS C0 a1 a3 a5 a6 ls hl hf
theorem cw_X4_isWithin {R : Room} {s : State} {args : Array Value} {own : String} {index : Nat} (ht : ∀ w ∈ wd, w.before args s = true) (hlink : Cond.methodLink own index yX4_isWithin ∈ wd) (hR : rm_X4_isWithin.frames + 1 ≤ R.frames ∧ 8 + (8 + 11) + rm_X4_isWithin.locals ≤ R.locals) : CallW R s args own RX4 index yX4_isWithin cX4_isWithin 8 (some .boolean) (.code yX4_isWithin cX4_isWithin 8 (some .boolean) :: wd) rm_X4_isWithin 0 0 4 := cwV9 4 ht wi_432 wi_431 wi_18 wi_56 hlink (by decide +kernel) rfl rfl hR
def rm_X4_isSmall : Room := { frames := 3, cells := 0, slots := 0, locals := 69 }
def f_X4_isSmall (nS : Nat) (zS : SumS) : Option (Int32) := (f_X4_isWithin nS zS (100 : Int64) (6 : Int64) (4 : Int32) (3 : Int32)).bind fun r_1 => if zb r_1 = true then some r_1 else none
set_option maxHeartbeats 4000000 in
set_option maxRecDepth 100000 in
theorem b_X4_isSmall_0 {p : Program} {l : Launch} {e : Env} {s : State} {m : MethodId} {args : Array Value} {below : List Frame} {meth : Method} {c : Code} {G : va_G} {cA : Nat → ClassId} (qS : Nat → Nat) (nS : Nat) (zS : SumS) (C0 : Amb p s m args meth c cX4_isSmall RX4 1 (some .boolean) G cA (fun _ : Nat => False) ((wSum cA qS nS zS))) {res : Int32} : ∀ (ls : Array Slot), lv_has ls 1 [(0, .ref (qS 0))] → f_X4_isSmall nS zS = some res → W p l e rm_X4_isSmall s m args below meth c s.heap [] 0 0 (MQ below (vp_Si (fun x => x = res)) args s 0 0 (fun _ : Nat => False)) (F0 m 0 ls []) := by
  obtain ⟨hx, hb, hr, hml, hown, hts, hlocks, hK, hR, hRA⟩ := id C0
  intro ls hl hf
  unfold f_X4_isSmall at hf
  refine lv_aload_n hx hb dX4_isSmall_0 rfl (lv_at hl 0 rfl) ?_
  refine lv_ldc2 (v := (100 : Int64)) hx hb hown (hts _ wi_542) dX4_isSmall_1 ?_
  refine lv_ldc2 (v := (6 : Int64)) hx hb hown (hts _ wi_543) dX4_isSmall_4 ?_
  refine lv_iconst (v := 4) hx hb dX4_isSmall_7 (by decide) ?_
  refine lv_iconst (v := 3) hx hb dX4_isSmall_8 (by decide) ?_
  obtain ⟨r_1, hr_1, hf⟩ := obd hf
  refine cRiV (As := [.long (100 : Int64), .long (6 : Int64), .int (4 : Int32), .int (3 : Int32)]) (rest := []) ⟨hx, hb, hml, hown, hts⟩ (m_X4_isWithin l G cA qS nS zS (100 : Int64) (6 : Int64) (4 : Int32) (3 : Int32) r_1 hr_1) (cw_X4_isWithin hts wi_429 ⟨Nat.le_of_ble_eq_true rfl, Nat.le_of_ble_eq_true rfl⟩) hK (pk hR [0, 1, 2, 3] rfl) (va_recv hK.1 hR (ci := 2) (q0 := 0) rfl rfl) rfl hl.1 rfl (Nat.le_of_ble_eq_true rfl) dX4_isSmall_9 ⟨Nat.zero_le _, Nat.zero_le _⟩ ?_
  obtain ⟨hz_2, hf⟩ := oif hf
  cases hf
  exact W.zret hx hb hr (zb_n hz_2) (fun t ht hW => ⟨_, rfl, rfl, ht⟩) (fun q hq => by cases hq) dX4_isSmall_12 hlocks

set_option maxRecDepth 100000 in
theorem m_X4_isSmall (l : Launch) (G : va_G) (cA : Nat → ClassId) (qS : Nat → Nat) (nS : Nat) (zS : SumS)  (res : Int32) (hf : f_X4_isSmall nS zS = some res) : MRi l yX4_isSmall (.code yX4_isSmall cX4_isSmall 1 (some .boolean) :: wd) rm_X4_isSmall G cA [.ref (qS 0)] ((wSum cA qS nS zS)) res := by
  refine Met.ofW (cc := cX4_isSmall) (maxL := 1) (ret := (some .boolean)) (by decide) rfl ?_
  intro p e s m args below meth c s₁ B hml hv
  obtain ⟨rfl, hK, hR⟩ := hv
  have C0 : Amb p s m ([.ref (qS 0)] : List Value).toArray meth c cX4_isSmall RX4 1 (some .boolean) G cA (fun _ : Nat => False) ((wSum cA qS nS zS)) := ⟨B.exec, B.bytes, B.returns, hml, findClass_of_methodNamed B.named, fun w h => atoms_spec (ws := (.code yX4_isSmall cX4_isSmall 1 (some .boolean) :: wd)) B.pre w (List.mem_cons_of_mem _ h), B.notSynchronized, hK, hR, fun _ _ _ h => h⟩
  have hl := lv_entry ([.ref (qS 0)]) (n := 1) (Nat.le_of_ble_eq_true rfl)
  rw [lg_entry_eq]
  generalize (lg_sl ([.ref (qS 0)]) ++ List.replicate (1 - (lg_sl ([.ref (qS 0)])).length) Slot.unset).toArray = ls at hl ⊢
  have hl : lv_has ls 1 [(0, .ref (qS 0))] := hl
  exact b_X4_isSmall_0 qS nS  zS C0  ls hl hf
theorem cw_X4_isSmall {R : Room} {s : State} {args : Array Value} {own : String} {index : Nat} (ht : ∀ w ∈ wd, w.before args s = true) (hlink : Cond.methodLink own index yX4_isSmall ∈ wd) (hR : rm_X4_isSmall.frames + 1 ≤ R.frames ∧ 8 + (1 + 11) + rm_X4_isSmall.locals ≤ R.locals) : CallW R s args own RX4 index yX4_isSmall cX4_isSmall 1 (some .boolean) (.code yX4_isSmall cX4_isSmall 1 (some .boolean) :: wd) rm_X4_isSmall 0 0 0 := cwV9 0 ht wi_541 wi_539 wi_540 wi_56 hlink (by decide +kernel) rfl rfl hR
def rm_X4_fits : Room := { frames := 3, cells := 0, slots := 0, locals := 69 }
def f_X4_fits (nS : Nat) (zS : SumS) : Option (Int32) := if ¬ (gS_ov zS) = 0 then some (0 : Int32) else if (gS_size zS) ≤ (40 : Int32) then (f_X4_isWithin nS zS (10000000000 : Int64) (100000 : Int64) (12 : Int32) (9 : Int32)).bind fun r_3 => if zb r_3 = true then some r_3 else none else some (0 : Int32)
set_option maxHeartbeats 4000000 in
set_option maxRecDepth 100000 in
theorem b_X4_fits_0 {p : Program} {l : Launch} {e : Env} {s : State} {m : MethodId} {args : Array Value} {below : List Frame} {meth : Method} {c : Code} {G : va_G} {cA : Nat → ClassId} (qS : Nat → Nat) (nS : Nat) (zS : SumS) (C0 : Amb p s m args meth c cX4_fits RX4 1 (some .boolean) G cA (fun _ : Nat => False) ((wSum cA qS nS zS))) {res : Int32} : ∀ (ls : Array Slot), lv_has ls 1 [(0, .ref (qS 0))] → f_X4_fits nS zS = some res → W p l e rm_X4_fits s m args below meth c s.heap [] 0 0 (MQ below (vp_Si (fun x => x = res)) args s 0 0 (fun _ : Nat => False)) (F0 m 0 ls []) := by
  obtain ⟨hx, hb, hr, hml, hown, hts, hlocks, hK, hR, hRA⟩ := id C0
  intro ls hl hf
  unfold f_X4_fits at hf
  refine lv_aload_n hx hb dX4_fits_0 rfl (lv_at hl 0 rfl) ?_
  refine va_get (D := G) (ci := 2) (v := .int (gS_ov zS)) (C := RX4) (T := TX4) (N := 6) hx hb hts fin_X4 hown hK.1 hR 0 rfl rfl 5 (by decide) (hts _ wi_89) (fun _ h9 => h9) rfl dX4_fits_1 ?_
  refine lv_if_ne (tgt := 16) hx hb dX4_fits_4 (by decide) (fun c_1 => ?_) (fun c_1 => ?_)
  · rw [if_pos (c_1)] at hf
    refine lv_iconst (v := 0) hx hb dX4_fits_16 (by decide) ?_
    cases hf
    exact W.zret hx hb hr (by decide) (fun t ht hW => ⟨_, rfl, rfl, ht⟩) (fun q hq => by cases hq) dX4_fits_17 hlocks
  · rw [if_neg (not_not_intro c_1)] at hf
    refine lv_aload_n hx hb dX4_fits_7 rfl (lv_at hl 0 rfl) ?_
    refine va_get (D := G) (ci := 2) (v := .int (gS_size zS)) (C := RX4) (T := TX4) (N := 6) hx hb hts fin_X4 hown hK.1 hR 0 rfl rfl 4 (by decide) (hts _ wi_88) (fun _ h9 => h9) rfl dX4_fits_8 ?_
    refine lv_bipush (v := (40 : Int32)) hx hb dX4_fits_11 (by decide) ?_
    refine lv_icmp_le (tgt := 18) hx hb dX4_fits_13 (by decide) (fun c_2 => ?_) (fun c_2 => ?_)
    · rw [if_pos (c_2)] at hf
      refine lv_aload_n hx hb dX4_fits_18 rfl (lv_at hl 0 rfl) ?_
      refine lv_ldc2 (v := (10000000000 : Int64)) hx hb hown (hts _ wi_427) dX4_fits_19 ?_
      refine lv_ldc2 (v := (100000 : Int64)) hx hb hown (hts _ wi_428) dX4_fits_22 ?_
      refine lv_bipush (v := (12 : Int32)) hx hb dX4_fits_25 (by decide) ?_
      refine lv_bipush (v := (9 : Int32)) hx hb dX4_fits_27 (by decide) ?_
      obtain ⟨r_3, hr_3, hf⟩ := obd hf
      refine cRiV (As := [.long (10000000000 : Int64), .long (100000 : Int64), .int (12 : Int32), .int (9 : Int32)]) (rest := []) ⟨hx, hb, hml, hown, hts⟩ (m_X4_isWithin l G cA qS nS zS (10000000000 : Int64) (100000 : Int64) (12 : Int32) (9 : Int32) r_3 hr_3) (cw_X4_isWithin hts wi_429 ⟨Nat.le_of_ble_eq_true rfl, Nat.le_of_ble_eq_true rfl⟩) hK (pk hR [0, 1, 2, 3] rfl) (va_recv hK.1 hR (ci := 2) (q0 := 0) rfl rfl) rfl hl.1 rfl (Nat.le_of_ble_eq_true rfl) dX4_fits_29 ⟨Nat.zero_le _, Nat.zero_le _⟩ ?_
      obtain ⟨hz_4, hf⟩ := oif hf
      cases hf
      exact W.zret hx hb hr (zb_n hz_4) (fun t ht hW => ⟨_, rfl, rfl, ht⟩) (fun q hq => by cases hq) dX4_fits_32 hlocks
    · rw [if_neg (c_2)] at hf
      refine lv_iconst (v := 0) hx hb dX4_fits_16 (by decide) ?_
      cases hf
      exact W.zret hx hb hr (by decide) (fun t ht hW => ⟨_, rfl, rfl, ht⟩) (fun q hq => by cases hq) dX4_fits_17 hlocks

set_option maxRecDepth 100000 in
theorem m_X4_fits (l : Launch) (G : va_G) (cA : Nat → ClassId) (qS : Nat → Nat) (nS : Nat) (zS : SumS)  (res : Int32) (hf : f_X4_fits nS zS = some res) : MRi l yX4_fits (.code yX4_fits cX4_fits 1 (some .boolean) :: wd) rm_X4_fits G cA [.ref (qS 0)] ((wSum cA qS nS zS)) res := by
  refine Met.ofW (cc := cX4_fits) (maxL := 1) (ret := (some .boolean)) (by decide) rfl ?_
  intro p e s m args below meth c s₁ B hml hv
  obtain ⟨rfl, hK, hR⟩ := hv
  have C0 : Amb p s m ([.ref (qS 0)] : List Value).toArray meth c cX4_fits RX4 1 (some .boolean) G cA (fun _ : Nat => False) ((wSum cA qS nS zS)) := ⟨B.exec, B.bytes, B.returns, hml, findClass_of_methodNamed B.named, fun w h => atoms_spec (ws := (.code yX4_fits cX4_fits 1 (some .boolean) :: wd)) B.pre w (List.mem_cons_of_mem _ h), B.notSynchronized, hK, hR, fun _ _ _ h => h⟩
  have hl := lv_entry ([.ref (qS 0)]) (n := 1) (Nat.le_of_ble_eq_true rfl)
  rw [lg_entry_eq]
  generalize (lg_sl ([.ref (qS 0)]) ++ List.replicate (1 - (lg_sl ([.ref (qS 0)])).length) Slot.unset).toArray = ls at hl ⊢
  have hl : lv_has ls 1 [(0, .ref (qS 0))] := hl
  exact b_X4_fits_0 qS nS  zS C0  ls hl hf
theorem cw_X4_fits {R : Room} {s : State} {args : Array Value} {own : String} {index : Nat} (ht : ∀ w ∈ wd, w.before args s = true) (hlink : Cond.methodLink own index yX4_fits ∈ wd) (hR : rm_X4_fits.frames + 1 ≤ R.frames ∧ 8 + (1 + 11) + rm_X4_fits.locals ≤ R.locals) : CallW R s args own RX4 index yX4_fits cX4_fits 1 (some .boolean) (.code yX4_fits cX4_fits 1 (some .boolean) :: wd) rm_X4_fits 0 0 0 := cwV9 0 ht wi_426 wi_424 wi_425 wi_56 hlink (by decide +kernel) rfl rfl hR
def rm_X4_clear : Room := { frames := 0, cells := 0, slots := 0, locals := 0 }
def f_X4_clear (nS : Nat) (zS : SumS) : Option (SumS) := some (uS_ov (uS_size zS (0 : Int32)) (0 : Int32))
set_option maxHeartbeats 4000000 in
set_option maxRecDepth 100000 in
theorem b_X4_clear_0 {p : Program} {l : Launch} {e : Env} {s : State} {m : MethodId} {args : Array Value} {below : List Frame} {meth : Method} {c : Code} {G : va_G} {cA : Nat → ClassId} {W9 : va_W} (qS : Nat → Nat) (nS : Nat) (C0 : Amb p s m args meth c cX4_clear RX4 1 none G cA (adr W9) []) {res : SumS} : ∀ (zS : SumS) (H : Heap) (locs : List Loc) (ls : Array Slot), va_P G vwCl ((wSum cA qS nS zS)) H → va_D (adr W9) ((wSum cA qS nS zS)) → va_S (adr W9) s.heap H locs → lv_has ls 1 [(0, .ref (qS 0))] → f_X4_clear nS zS = some res → W p l e rm_X4_clear s m args below meth c H locs 0 0 (MQ below (qWv G W9 ((wSum cA qS nS res))) args s 0 0 (adr W9)) (F0 m 0 ls []) := by
  obtain ⟨hx, hb, hr, hml, hown, hts, hlocks, hK, hR, hRA⟩ := id C0
  intro zS H locs ls hP hD hS hl hf
  unfold f_X4_clear at hf
  refine lv_aload_n hx hb dX4_clear_0 rfl (lv_at hl 0 rfl) ?_
  refine lv_iconst (v := 0) hx hb dX4_clear_1 (by decide) ?_
  refine va_put (D := G) (ci := 2) (v := .int (0 : Int32)) (ty := .int) (C := RX4) (T := TX4) (N := 6) hx hb hts fin_X4 tyX4 tyX4_ok nmX4 hown hK.1 hP hD hS 0 rfl rfl 4 (by decide) (hts _ wi_88) (fun _ h9 => h9) rfl (by decide +kernel) rfl rfl (Nat.le_of_ble_eq_true rfl) dX4_clear_2 (fun H locs hP hD hS => ?_)
  have hP := sS_size_P hP
  have hD := sS_size_D hD
  refine lv_aload_n hx hb dX4_clear_5 rfl (lv_at hl 0 rfl) ?_
  refine lv_iconst (v := 0) hx hb dX4_clear_6 (by decide) ?_
  refine va_put (D := G) (ci := 2) (v := .int (0 : Int32)) (ty := .boolean) (C := RX4) (T := TX4) (N := 6) hx hb hts fin_X4 tyX4 tyX4_ok nmX4 hown hK.1 hP hD hS 0 rfl rfl 5 (by decide) (hts _ wi_89) (fun _ h9 => h9) rfl (by decide +kernel) (by decide) (by decide) (Nat.le_of_ble_eq_true rfl) dX4_clear_7 (fun H locs hP hD hS => ?_)
  have hP := sS_ov_P hP
  have hD := sS_ov_D hD
  cases hf
  exact W.vret hx hb hr (fun t ht hW => ⟨⟨(), rfl, trivial, toT ht hP⟩, hS.F ht⟩) hS.2.2 dX4_clear_10 hlocks

set_option maxRecDepth 100000 in
theorem m_X4_clear (l : Launch) (G : va_G) (cA : Nat → ClassId) (qS : Nat → Nat) (nS : Nat) (zS : SumS) (res : SumS) (hf : f_X4_clear nS zS = some res) : MWv l yX4_clear (.code yX4_clear cX4_clear 1 none :: wd) rm_X4_clear G cA [.ref (qS 0)] ((wSum cA qS nS zS)) [] ((wSum cA qS nS res)) := by
  refine Met.ofW (cc := cX4_clear) (maxL := 1) (ret := none) (by decide) rfl ?_
  intro p e s m args below meth c s₁ B hml hv
  obtain ⟨rfl, hK, hP, hD0, hR, hRA⟩ := hv
  have C0 : Amb p s m ([.ref (qS 0)] : List Value).toArray meth c cX4_clear RX4 1 none G cA (adr ((wSum cA qS nS zS))) [] := ⟨B.exec, B.bytes, B.returns, hml, findClass_of_methodNamed B.named, fun w h => atoms_spec (ws := (.code yX4_clear cX4_clear 1 none :: wd)) B.pre w (List.mem_cons_of_mem _ h), B.notSynchronized, hK, hR, hRA⟩
  have hl := lv_entry ([.ref (qS 0)]) (n := 1) (Nat.le_of_ble_eq_true rfl)
  rw [lg_entry_eq]
  generalize (lg_sl ([.ref (qS 0)]) ++ List.replicate (1 - (lg_sl ([.ref (qS 0)])).length) Slot.unset).toArray = ls at hl ⊢
  have hl : lv_has ls 1 [(0, .ref (qS 0))] := hl
  exact b_X4_clear_0 (W9 := ((wSum cA qS nS zS))) qS nS   C0 zS s.heap [] ls hP (adr.self hD0) va_S.rf hl hf
theorem cw_X4_clear {R : Room} {s : State} {args : Array Value} {own : String} {index : Nat} (ht : ∀ w ∈ wd, w.before args s = true) (hlink : Cond.methodLink own index yX4_clear ∈ wd) (hR : rm_X4_clear.frames + 1 ≤ R.frames ∧ 8 + (1 + 11) + rm_X4_clear.locals ≤ R.locals) : CallW R s args own RX4 index yX4_clear cX4_clear 1 none (.code yX4_clear cX4_clear 1 none :: wd) rm_X4_clear 0 0 0 := cwV9 0 ht wi_334 wi_332 wi_333 wi_56 hlink (by decide +kernel) rfl rfl hR
def rm_X4_openAt : Room := { frames := 0, cells := 0, slots := 0, locals := 0 }
def f_X4_openAt_18 (nS : Nat) : Nat → SumS → Int32 → Int32 → Option (Int32 × SumS)
  | 0, _, _, _ => none
  | fu + 1, zS, x1, x2 => if x2 ≤ x1 then some ((1 : Int32), (uS_size zS ((gS_size zS) + (1 : Int32)))) else if inb (x2 - (1 : Int32)) nS = true then if inb x2 nS = true then if inb (x2 - (1 : Int32)) nS = true then if inb x2 nS = true then if inb (x2 - (1 : Int32)) nS = true then if inb x2 nS = true then f_X4_openAt_18 nS fu (uS_bots (uS_tops (uS_keys zS (upd (gS_keys zS) x2.toNatClampNeg (gS_keys zS (x2 - (1 : Int32)).toNatClampNeg))) (vp_updL (gS_tops (uS_keys zS (upd (gS_keys zS) x2.toNatClampNeg (gS_keys zS (x2 - (1 : Int32)).toNatClampNeg)))) x2.toNatClampNeg (gS_tops (uS_keys zS (upd (gS_keys zS) x2.toNatClampNeg (gS_keys zS (x2 - (1 : Int32)).toNatClampNeg))) (x2 - (1 : Int32)).toNatClampNeg))) (vp_updL (gS_bots (uS_tops (uS_keys zS (upd (gS_keys zS) x2.toNatClampNeg (gS_keys zS (x2 - (1 : Int32)).toNatClampNeg))) (vp_updL (gS_tops (uS_keys zS (upd (gS_keys zS) x2.toNatClampNeg (gS_keys zS (x2 - (1 : Int32)).toNatClampNeg)))) x2.toNatClampNeg (gS_tops (uS_keys zS (upd (gS_keys zS) x2.toNatClampNeg (gS_keys zS (x2 - (1 : Int32)).toNatClampNeg))) (x2 - (1 : Int32)).toNatClampNeg)))) x2.toNatClampNeg (gS_bots (uS_tops (uS_keys zS (upd (gS_keys zS) x2.toNatClampNeg (gS_keys zS (x2 - (1 : Int32)).toNatClampNeg))) (vp_updL (gS_tops (uS_keys zS (upd (gS_keys zS) x2.toNatClampNeg (gS_keys zS (x2 - (1 : Int32)).toNatClampNeg)))) x2.toNatClampNeg (gS_tops (uS_keys zS (upd (gS_keys zS) x2.toNatClampNeg (gS_keys zS (x2 - (1 : Int32)).toNatClampNeg))) (x2 - (1 : Int32)).toNatClampNeg))) (x2 - (1 : Int32)).toNatClampNeg))) x1 (x2 + (-1)) else none else none else none else none else none else none
set_option maxHeartbeats 4000000 in
set_option maxRecDepth 100000 in
theorem b_X4_openAt_18 {p : Program} {l : Launch} {e : Env} {s : State} {m : MethodId} {args : Array Value} {below : List Frame} {meth : Method} {c : Code} {G : va_G} {cA : Nat → ClassId} {W9 : va_W} (qS : Nat → Nat) (nS : Nat) (C0 : Amb p s m args meth c cX4_openAt RX4 3 (some .boolean) G cA (adr W9) []) {res : Int32 × SumS} : ∀ (fu : Nat) (zS : SumS) (x1 : Int32) (x2 : Int32) (H : Heap) (locs : List Loc) (ls : Array Slot), va_P G vwCl ((wSum cA qS nS zS)) H → va_D (adr W9) ((wSum cA qS nS zS)) → va_S (adr W9) s.heap H locs → lv_has ls 3 [(0, .ref (qS 0)), (1, .int x1), (2, .int x2)] → f_X4_openAt_18 nS fu zS x1 x2 = some res → W p l e rm_X4_openAt s m args below meth c H locs 0 0 (MQ below (qWi G W9 ((wSum cA qS nS res.2)) res.1) args s 0 0 (adr W9)) (F0 m 18 ls []) := by
  obtain ⟨hx, hb, hr, hml, hown, hts, hlocks, hK, hR, hRA⟩ := id C0
  intro fu
  induction fu with
  | zero =>
    intro zS x1 x2 H locs ls hP hD hS hl hf
    rw [f_X4_openAt_18] at hf
    cases hf
  | succ fu ih =>
    intro zS x1 x2 H locs ls hP hD hS hl hf
    rw [f_X4_openAt_18] at hf
    refine lv_iload_n hx hb dX4_openAt_18 rfl (lv_at hl 2 rfl) ?_
    refine lv_iload_n hx hb dX4_openAt_19 rfl (lv_at hl 1 rfl) ?_
    refine lv_icmp_le (tgt := 71) hx hb dX4_openAt_20 (by decide) (fun c_1 => ?_) (fun c_1 => ?_)
    · rw [if_pos (c_1)] at hf
      refine lv_aload_n hx hb dX4_openAt_71 rfl (lv_at hl 0 rfl) ?_
      refine lv_dup hx hb dX4_openAt_72 rfl ?_
      refine va_get (D := G) (ci := 2) (v := .int (gS_size zS)) (C := RX4) (T := TX4) (N := 6) hx hb hts fin_X4 hown hK.1 hP 0 rfl rfl 4 (by decide) (hts _ wi_88) (fun _ h9 => h9) rfl dX4_openAt_73 ?_
      refine lv_iconst (v := 1) hx hb dX4_openAt_76 (by decide) ?_
      refine lv_iadd hx hb dX4_openAt_77 ?_
      refine va_put (D := G) (ci := 2) (v := .int ((gS_size zS) + (1 : Int32))) (ty := .int) (C := RX4) (T := TX4) (N := 6) hx hb hts fin_X4 tyX4 tyX4_ok nmX4 hown hK.1 hP hD hS 0 rfl rfl 4 (by decide) (hts _ wi_88) (fun _ h9 => h9) rfl (by decide +kernel) rfl rfl (Nat.le_of_ble_eq_true rfl) dX4_openAt_78 (fun H locs hP hD hS => ?_)
      have hP := sS_size_P hP
      have hD := sS_size_D hD
      refine lv_iconst (v := 1) hx hb dX4_openAt_81 (by decide) ?_
      cases hf
      exact W.zret hx hb hr (by decide) (fun t ht hW => ⟨⟨_, (), rfl, rfl, toT ht hP⟩, hS.F ht⟩) hS.2.2 dX4_openAt_82 hlocks
    · rw [if_neg (c_1)] at hf
      refine lv_aload_n hx hb dX4_openAt_23 rfl (lv_at hl 0 rfl) ?_
      refine va_get (D := G) (ci := 2) (v := .ref (qS 1)) (C := RX4) (T := TX4) (N := 6) hx hb hts fin_X4 hown hK.1 hP 0 rfl rfl 1 (by decide) (hts _ wi_85) (fun _ h9 => h9) rfl dX4_openAt_24 ?_
      refine lv_iload_n hx hb dX4_openAt_27 rfl (lv_at hl 2 rfl) ?_
      refine lv_aload_n hx hb dX4_openAt_28 rfl (lv_at hl 0 rfl) ?_
      refine va_get (D := G) (ci := 2) (v := .ref (qS 1)) (C := RX4) (T := TX4) (N := 6) hx hb hts fin_X4 hown hK.1 hP 0 rfl rfl 1 (by decide) (hts _ wi_85) (fun _ h9 => h9) rfl dX4_openAt_29 ?_
      refine lv_iload_n hx hb dX4_openAt_32 rfl (lv_at hl 2 rfl) ?_
      refine lv_iconst (v := 1) hx hb dX4_openAt_33 (by decide) ?_
      refine lv_isub hx hb dX4_openAt_34 ?_
      obtain ⟨hi_2, hf⟩ := oif hf
      refine va_iald hx hb hK.1 hP 1 0 rfl rfl (inb_in hi_2) dX4_openAt_35 ?_
      obtain ⟨hi_3, hf⟩ := oif hf
      refine va_iast hx hb hK.1 hP hD hS 1 0 rfl rfl (inb_in hi_3) dX4_openAt_36 (fun H locs hP hD hS => ?_)
      have hP := sS_keys_P hP
      have hD := sS_keys_D hD
      refine lv_aload_n hx hb dX4_openAt_37 rfl (lv_at hl 0 rfl) ?_
      refine va_get (D := G) (ci := 2) (v := .ref (qS 2)) (C := RX4) (T := TX4) (N := 6) hx hb hts fin_X4 hown hK.1 hP 0 rfl rfl 2 (by decide) (hts _ wi_86) (fun _ h9 => h9) rfl dX4_openAt_38 ?_
      refine lv_iload_n hx hb dX4_openAt_41 rfl (lv_at hl 2 rfl) ?_
      refine lv_aload_n hx hb dX4_openAt_42 rfl (lv_at hl 0 rfl) ?_
      refine va_get (D := G) (ci := 2) (v := .ref (qS 2)) (C := RX4) (T := TX4) (N := 6) hx hb hts fin_X4 hown hK.1 hP 0 rfl rfl 2 (by decide) (hts _ wi_86) (fun _ h9 => h9) rfl dX4_openAt_43 ?_
      refine lv_iload_n hx hb dX4_openAt_46 rfl (lv_at hl 2 rfl) ?_
      refine lv_iconst (v := 1) hx hb dX4_openAt_47 (by decide) ?_
      refine lv_isub hx hb dX4_openAt_48 ?_
      obtain ⟨hi_4, hf⟩ := oif hf
      refine va_lald hx hb hK.1 hP 2 1 rfl rfl (inb_in hi_4) dX4_openAt_49 ?_
      obtain ⟨hi_5, hf⟩ := oif hf
      refine va_last hx hb hK.1 hP hD hS 2 1 rfl rfl (inb_in hi_5) dX4_openAt_50 (fun H locs hP hD hS => ?_)
      have hP := sS_tops_P hP
      have hD := sS_tops_D hD
      refine lv_aload_n hx hb dX4_openAt_51 rfl (lv_at hl 0 rfl) ?_
      refine va_get (D := G) (ci := 2) (v := .ref (qS 3)) (C := RX4) (T := TX4) (N := 6) hx hb hts fin_X4 hown hK.1 hP 0 rfl rfl 3 (by decide) (hts _ wi_87) (fun _ h9 => h9) rfl dX4_openAt_52 ?_
      refine lv_iload_n hx hb dX4_openAt_55 rfl (lv_at hl 2 rfl) ?_
      refine lv_aload_n hx hb dX4_openAt_56 rfl (lv_at hl 0 rfl) ?_
      refine va_get (D := G) (ci := 2) (v := .ref (qS 3)) (C := RX4) (T := TX4) (N := 6) hx hb hts fin_X4 hown hK.1 hP 0 rfl rfl 3 (by decide) (hts _ wi_87) (fun _ h9 => h9) rfl dX4_openAt_57 ?_
      refine lv_iload_n hx hb dX4_openAt_60 rfl (lv_at hl 2 rfl) ?_
      refine lv_iconst (v := 1) hx hb dX4_openAt_61 (by decide) ?_
      refine lv_isub hx hb dX4_openAt_62 ?_
      obtain ⟨hi_6, hf⟩ := oif hf
      refine va_lald hx hb hK.1 hP 3 1 rfl rfl (inb_in hi_6) dX4_openAt_63 ?_
      obtain ⟨hi_7, hf⟩ := oif hf
      refine va_last hx hb hK.1 hP hD hS 3 1 rfl rfl (inb_in hi_7) dX4_openAt_64 (fun H locs hP hD hS => ?_)
      have hP := sS_bots_P hP
      have hD := sS_bots_D hD
      refine lv_iinc (v := (x2 + (-1))) (lv' := [(2, .int (x2 + (-1))), (0, .ref (qS 0)), (1, .int x1)]) hx hb dX4_openAt_65 hl (k := 2) rfl rfl (by decide) rfl (fun ls hl => ?_)
      refine lv_goto (tgt := 18) hx hb dX4_openAt_68 (by decide) ?_
      exact ih (uS_bots (uS_tops (uS_keys zS (upd (gS_keys zS) x2.toNatClampNeg (gS_keys zS (x2 - (1 : Int32)).toNatClampNeg))) (vp_updL (gS_tops (uS_keys zS (upd (gS_keys zS) x2.toNatClampNeg (gS_keys zS (x2 - (1 : Int32)).toNatClampNeg)))) x2.toNatClampNeg (gS_tops (uS_keys zS (upd (gS_keys zS) x2.toNatClampNeg (gS_keys zS (x2 - (1 : Int32)).toNatClampNeg))) (x2 - (1 : Int32)).toNatClampNeg))) (vp_updL (gS_bots (uS_tops (uS_keys zS (upd (gS_keys zS) x2.toNatClampNeg (gS_keys zS (x2 - (1 : Int32)).toNatClampNeg))) (vp_updL (gS_tops (uS_keys zS (upd (gS_keys zS) x2.toNatClampNeg (gS_keys zS (x2 - (1 : Int32)).toNatClampNeg)))) x2.toNatClampNeg (gS_tops (uS_keys zS (upd (gS_keys zS) x2.toNatClampNeg (gS_keys zS (x2 - (1 : Int32)).toNatClampNeg))) (x2 - (1 : Int32)).toNatClampNeg)))) x2.toNatClampNeg (gS_bots (uS_tops (uS_keys zS (upd (gS_keys zS) x2.toNatClampNeg (gS_keys zS (x2 - (1 : Int32)).toNatClampNeg))) (vp_updL (gS_tops (uS_keys zS (upd (gS_keys zS) x2.toNatClampNeg (gS_keys zS (x2 - (1 : Int32)).toNatClampNeg)))) x2.toNatClampNeg (gS_tops (uS_keys zS (upd (gS_keys zS) x2.toNatClampNeg (gS_keys zS (x2 - (1 : Int32)).toNatClampNeg))) (x2 - (1 : Int32)).toNatClampNeg))) (x2 - (1 : Int32)).toNatClampNeg))) x1 (x2 + (-1)) H locs ls hP hD hS (lv_sub hl [1, 2, 0] rfl) hf
def f_X4_openAt (nS : Nat) (zS : SumS) (a1 : Int32) : Option (Int32 × SumS) := if (gS_size zS) < (nI nS) then (some ((gS_size zS))).bind fun y_2 => f_X4_openAt_18 nS fuel zS a1 y_2 else some ((0 : Int32), zS)
set_option maxHeartbeats 4000000 in
set_option maxRecDepth 100000 in
theorem b_X4_openAt_0 {p : Program} {l : Launch} {e : Env} {s : State} {m : MethodId} {args : Array Value} {below : List Frame} {meth : Method} {c : Code} {G : va_G} {cA : Nat → ClassId} {W9 : va_W} (qS : Nat → Nat) (nS : Nat) (C0 : Amb p s m args meth c cX4_openAt RX4 3 (some .boolean) G cA (adr W9) []) {res : Int32 × SumS} : ∀ (zS : SumS) (a1 : Int32) (H : Heap) (locs : List Loc) (ls : Array Slot), va_P G vwCl ((wSum cA qS nS zS)) H → va_D (adr W9) ((wSum cA qS nS zS)) → va_S (adr W9) s.heap H locs → lv_has ls 3 [(0, .ref (qS 0)), (1, .int a1)] → f_X4_openAt nS zS a1 = some res → W p l e rm_X4_openAt s m args below meth c H locs 0 0 (MQ below (qWi G W9 ((wSum cA qS nS res.2)) res.1) args s 0 0 (adr W9)) (F0 m 0 ls []) := by
  obtain ⟨hx, hb, hr, hml, hown, hts, hlocks, hK, hR, hRA⟩ := id C0
  intro zS a1 H locs ls hP hD hS hl hf
  unfold f_X4_openAt at hf
  refine lv_aload_n hx hb dX4_openAt_0 rfl (lv_at hl 0 rfl) ?_
  refine va_get (D := G) (ci := 2) (v := .int (gS_size zS)) (C := RX4) (T := TX4) (N := 6) hx hb hts fin_X4 hown hK.1 hP 0 rfl rfl 4 (by decide) (hts _ wi_88) (fun _ h9 => h9) rfl dX4_openAt_1 ?_
  refine lv_aload_n hx hb dX4_openAt_4 rfl (lv_at hl 0 rfl) ?_
  refine va_get (D := G) (ci := 2) (v := .int (nI nS)) (C := RX4) (T := TX4) (N := 6) hx hb hts fin_X4 hown hK.1 hP 0 rfl rfl 0 (by decide) (hts _ wi_84) (fun _ h9 => h9) rfl dX4_openAt_5 ?_
  refine lv_icmp_lt (tgt := 13) hx hb dX4_openAt_8 (by decide) (fun c_1 => ?_) (fun c_1 => ?_)
  · rw [if_pos (c_1)] at hf
    refine lv_aload_n hx hb dX4_openAt_13 rfl (lv_at hl 0 rfl) ?_
    refine va_get (D := G) (ci := 2) (v := .int (gS_size zS)) (C := RX4) (T := TX4) (N := 6) hx hb hts fin_X4 hown hK.1 hP 0 rfl rfl 4 (by decide) (hts _ wi_88) (fun _ h9 => h9) rfl dX4_openAt_14 ?_
    obtain ⟨y_2, hq, hf⟩ := obd hf
    have hy_2 : (gS_size zS) = y_2 := Option.some.inj hq
    rw [hy_2]
    refine lv_istore_n (lv' := [(2, .int y_2), (0, .ref (qS 0)), (1, .int a1)]) hx hb dX4_openAt_17 rfl hl (by decide) rfl (fun ls hl => ?_)
    exact b_X4_openAt_18 qS nS   C0  fuel zS a1 y_2 H locs ls hP hD hS (lv_sub hl [1, 2, 0] rfl) hf
  · rw [if_neg (c_1)] at hf
    refine lv_iconst (v := 0) hx hb dX4_openAt_11 (by decide) ?_
    cases hf
    exact W.zret hx hb hr (by decide) (fun t ht hW => ⟨⟨_, (), rfl, rfl, toT ht hP⟩, hS.F ht⟩) hS.2.2 dX4_openAt_12 hlocks

set_option maxRecDepth 100000 in
theorem m_X4_openAt (l : Launch) (G : va_G) (cA : Nat → ClassId) (qS : Nat → Nat) (nS : Nat) (zS : SumS) (a1 : Int32) (res : Int32 × SumS) (hf : f_X4_openAt nS zS a1 = some res) : MWi l yX4_openAt (.code yX4_openAt cX4_openAt 3 (some .boolean) :: wd) rm_X4_openAt G cA [.ref (qS 0), .int a1] ((wSum cA qS nS zS)) [] ((wSum cA qS nS res.2)) res.1 := by
  refine Met.ofW (cc := cX4_openAt) (maxL := 3) (ret := (some .boolean)) (by decide) rfl ?_
  intro p e s m args below meth c s₁ B hml hv
  obtain ⟨rfl, hK, hP, hD0, hR, hRA⟩ := hv
  have C0 : Amb p s m ([.ref (qS 0), .int a1] : List Value).toArray meth c cX4_openAt RX4 3 (some .boolean) G cA (adr ((wSum cA qS nS zS))) [] := ⟨B.exec, B.bytes, B.returns, hml, findClass_of_methodNamed B.named, fun w h => atoms_spec (ws := (.code yX4_openAt cX4_openAt 3 (some .boolean) :: wd)) B.pre w (List.mem_cons_of_mem _ h), B.notSynchronized, hK, hR, hRA⟩
  have hl := lv_entry ([.ref (qS 0), .int a1]) (n := 3) (Nat.le_of_ble_eq_true rfl)
  rw [lg_entry_eq]
  generalize (lg_sl ([.ref (qS 0), .int a1]) ++ List.replicate (3 - (lg_sl ([.ref (qS 0), .int a1])).length) Slot.unset).toArray = ls at hl ⊢
  have hl : lv_has ls 3 [(0, .ref (qS 0)), (1, .int a1)] := hl
  exact b_X4_openAt_0 (W9 := ((wSum cA qS nS zS))) qS nS   C0 zS a1 s.heap [] ls hP (adr.self hD0) va_S.rf hl hf
theorem cw_X4_openAt {R : Room} {s : State} {args : Array Value} {own : String} {index : Nat} (ht : ∀ w ∈ wd, w.before args s = true) (hlink : Cond.methodLink own index yX4_openAt ∈ wd) (hR : rm_X4_openAt.frames + 1 ≤ R.frames ∧ 8 + (3 + 11) + rm_X4_openAt.locals ≤ R.locals) : CallW R s args own RX4 index yX4_openAt cX4_openAt 3 (some .boolean) (.code yX4_openAt cX4_openAt 3 (some .boolean) :: wd) rm_X4_openAt 0 0 1 := cwV9 1 ht wi_412 wi_411 wi_16 wi_56 hlink (by decide +kernel) rfl rfl hR
def rm_X4_closeAt : Room := { frames := 0, cells := 0, slots := 0, locals := 0 }
def f_X4_closeAt_2 (nS : Nat) : Nat → SumS → Int32 → Option (SumS)
  | 0, _, _ => none
  | fu + 1, zS, x2 => if (gS_size zS) ≤ (x2 + (1 : Int32)) then some (uS_size zS ((gS_size zS) - (1 : Int32))) else if inb (x2 + (1 : Int32)) nS = true then if inb x2 nS = true then if inb (x2 + (1 : Int32)) nS = true then if inb x2 nS = true then if inb (x2 + (1 : Int32)) nS = true then if inb x2 nS = true then f_X4_closeAt_2 nS fu (uS_bots (uS_tops (uS_keys zS (upd (gS_keys zS) x2.toNatClampNeg (gS_keys zS (x2 + (1 : Int32)).toNatClampNeg))) (vp_updL (gS_tops (uS_keys zS (upd (gS_keys zS) x2.toNatClampNeg (gS_keys zS (x2 + (1 : Int32)).toNatClampNeg)))) x2.toNatClampNeg (gS_tops (uS_keys zS (upd (gS_keys zS) x2.toNatClampNeg (gS_keys zS (x2 + (1 : Int32)).toNatClampNeg))) (x2 + (1 : Int32)).toNatClampNeg))) (vp_updL (gS_bots (uS_tops (uS_keys zS (upd (gS_keys zS) x2.toNatClampNeg (gS_keys zS (x2 + (1 : Int32)).toNatClampNeg))) (vp_updL (gS_tops (uS_keys zS (upd (gS_keys zS) x2.toNatClampNeg (gS_keys zS (x2 + (1 : Int32)).toNatClampNeg)))) x2.toNatClampNeg (gS_tops (uS_keys zS (upd (gS_keys zS) x2.toNatClampNeg (gS_keys zS (x2 + (1 : Int32)).toNatClampNeg))) (x2 + (1 : Int32)).toNatClampNeg)))) x2.toNatClampNeg (gS_bots (uS_tops (uS_keys zS (upd (gS_keys zS) x2.toNatClampNeg (gS_keys zS (x2 + (1 : Int32)).toNatClampNeg))) (vp_updL (gS_tops (uS_keys zS (upd (gS_keys zS) x2.toNatClampNeg (gS_keys zS (x2 + (1 : Int32)).toNatClampNeg)))) x2.toNatClampNeg (gS_tops (uS_keys zS (upd (gS_keys zS) x2.toNatClampNeg (gS_keys zS (x2 + (1 : Int32)).toNatClampNeg))) (x2 + (1 : Int32)).toNatClampNeg))) (x2 + (1 : Int32)).toNatClampNeg))) (x2 + 1) else none else none else none else none else none else none
set_option maxHeartbeats 4000000 in
set_option maxRecDepth 100000 in
theorem b_X4_closeAt_2 {p : Program} {l : Launch} {e : Env} {s : State} {m : MethodId} {args : Array Value} {below : List Frame} {meth : Method} {c : Code} {G : va_G} {cA : Nat → ClassId} {W9 : va_W} (qS : Nat → Nat) (nS : Nat) (C0 : Amb p s m args meth c cX4_closeAt RX4 3 none G cA (adr W9) []) {res : SumS} : ∀ (fu : Nat) (zS : SumS) (x2 : Int32) (H : Heap) (locs : List Loc) (ls : Array Slot), va_P G vwCl ((wSum cA qS nS zS)) H → va_D (adr W9) ((wSum cA qS nS zS)) → va_S (adr W9) s.heap H locs → lv_has ls 3 [(0, .ref (qS 0)), (2, .int x2)] → f_X4_closeAt_2 nS fu zS x2 = some res → W p l e rm_X4_closeAt s m args below meth c H locs 0 0 (MQ below (qWv G W9 ((wSum cA qS nS res))) args s 0 0 (adr W9)) (F0 m 2 ls []) := by
  obtain ⟨hx, hb, hr, hml, hown, hts, hlocks, hK, hR, hRA⟩ := id C0
  intro fu
  induction fu with
  | zero =>
    intro zS x2 H locs ls hP hD hS hl hf
    rw [f_X4_closeAt_2] at hf
    cases hf
  | succ fu ih =>
    intro zS x2 H locs ls hP hD hS hl hf
    rw [f_X4_closeAt_2] at hf
    refine lv_iload_n hx hb dX4_closeAt_2 rfl (lv_at hl 1 rfl) ?_
    refine lv_iconst (v := 1) hx hb dX4_closeAt_3 (by decide) ?_
    refine lv_iadd hx hb dX4_closeAt_4 ?_
    refine lv_aload_n hx hb dX4_closeAt_5 rfl (lv_at hl 0 rfl) ?_
    refine va_get (D := G) (ci := 2) (v := .int (gS_size zS)) (C := RX4) (T := TX4) (N := 6) hx hb hts fin_X4 hown hK.1 hP 0 rfl rfl 4 (by decide) (hts _ wi_88) (fun _ h9 => h9) rfl dX4_closeAt_6 ?_
    refine lv_icmp_ge (tgt := 60) hx hb dX4_closeAt_9 (by decide) (fun c_1 => ?_) (fun c_1 => ?_)
    · rw [if_pos (c_1)] at hf
      refine lv_aload_n hx hb dX4_closeAt_60 rfl (lv_at hl 0 rfl) ?_
      refine lv_dup hx hb dX4_closeAt_61 rfl ?_
      refine va_get (D := G) (ci := 2) (v := .int (gS_size zS)) (C := RX4) (T := TX4) (N := 6) hx hb hts fin_X4 hown hK.1 hP 0 rfl rfl 4 (by decide) (hts _ wi_88) (fun _ h9 => h9) rfl dX4_closeAt_62 ?_
      refine lv_iconst (v := 1) hx hb dX4_closeAt_65 (by decide) ?_
      refine lv_isub hx hb dX4_closeAt_66 ?_
      refine va_put (D := G) (ci := 2) (v := .int ((gS_size zS) - (1 : Int32))) (ty := .int) (C := RX4) (T := TX4) (N := 6) hx hb hts fin_X4 tyX4 tyX4_ok nmX4 hown hK.1 hP hD hS 0 rfl rfl 4 (by decide) (hts _ wi_88) (fun _ h9 => h9) rfl (by decide +kernel) rfl rfl (Nat.le_of_ble_eq_true rfl) dX4_closeAt_67 (fun H locs hP hD hS => ?_)
      have hP := sS_size_P hP
      have hD := sS_size_D hD
      cases hf
      exact W.vret hx hb hr (fun t ht hW => ⟨⟨(), rfl, trivial, toT ht hP⟩, hS.F ht⟩) hS.2.2 dX4_closeAt_70 hlocks
    · rw [if_neg (c_1)] at hf
      refine lv_aload_n hx hb dX4_closeAt_12 rfl (lv_at hl 0 rfl) ?_
      refine va_get (D := G) (ci := 2) (v := .ref (qS 1)) (C := RX4) (T := TX4) (N := 6) hx hb hts fin_X4 hown hK.1 hP 0 rfl rfl 1 (by decide) (hts _ wi_85) (fun _ h9 => h9) rfl dX4_closeAt_13 ?_
      refine lv_iload_n hx hb dX4_closeAt_16 rfl (lv_at hl 1 rfl) ?_
      refine lv_aload_n hx hb dX4_closeAt_17 rfl (lv_at hl 0 rfl) ?_
      refine va_get (D := G) (ci := 2) (v := .ref (qS 1)) (C := RX4) (T := TX4) (N := 6) hx hb hts fin_X4 hown hK.1 hP 0 rfl rfl 1 (by decide) (hts _ wi_85) (fun _ h9 => h9) rfl dX4_closeAt_18 ?_
      refine lv_iload_n hx hb dX4_closeAt_21 rfl (lv_at hl 1 rfl) ?_
      refine lv_iconst (v := 1) hx hb dX4_closeAt_22 (by decide) ?_
      refine lv_iadd hx hb dX4_closeAt_23 ?_
      obtain ⟨hi_2, hf⟩ := oif hf
      refine va_iald hx hb hK.1 hP 1 0 rfl rfl (inb_in hi_2) dX4_closeAt_24 ?_
      obtain ⟨hi_3, hf⟩ := oif hf
      refine va_iast hx hb hK.1 hP hD hS 1 0 rfl rfl (inb_in hi_3) dX4_closeAt_25 (fun H locs hP hD hS => ?_)
      have hP := sS_keys_P hP
      have hD := sS_keys_D hD
      refine lv_aload_n hx hb dX4_closeAt_26 rfl (lv_at hl 0 rfl) ?_
      refine va_get (D := G) (ci := 2) (v := .ref (qS 2)) (C := RX4) (T := TX4) (N := 6) hx hb hts fin_X4 hown hK.1 hP 0 rfl rfl 2 (by decide) (hts _ wi_86) (fun _ h9 => h9) rfl dX4_closeAt_27 ?_
      refine lv_iload_n hx hb dX4_closeAt_30 rfl (lv_at hl 1 rfl) ?_
      refine lv_aload_n hx hb dX4_closeAt_31 rfl (lv_at hl 0 rfl) ?_
      refine va_get (D := G) (ci := 2) (v := .ref (qS 2)) (C := RX4) (T := TX4) (N := 6) hx hb hts fin_X4 hown hK.1 hP 0 rfl rfl 2 (by decide) (hts _ wi_86) (fun _ h9 => h9) rfl dX4_closeAt_32 ?_
      refine lv_iload_n hx hb dX4_closeAt_35 rfl (lv_at hl 1 rfl) ?_
      refine lv_iconst (v := 1) hx hb dX4_closeAt_36 (by decide) ?_
      refine lv_iadd hx hb dX4_closeAt_37 ?_
      obtain ⟨hi_4, hf⟩ := oif hf
      refine va_lald hx hb hK.1 hP 2 1 rfl rfl (inb_in hi_4) dX4_closeAt_38 ?_
      obtain ⟨hi_5, hf⟩ := oif hf
      refine va_last hx hb hK.1 hP hD hS 2 1 rfl rfl (inb_in hi_5) dX4_closeAt_39 (fun H locs hP hD hS => ?_)
      have hP := sS_tops_P hP
      have hD := sS_tops_D hD
      refine lv_aload_n hx hb dX4_closeAt_40 rfl (lv_at hl 0 rfl) ?_
      refine va_get (D := G) (ci := 2) (v := .ref (qS 3)) (C := RX4) (T := TX4) (N := 6) hx hb hts fin_X4 hown hK.1 hP 0 rfl rfl 3 (by decide) (hts _ wi_87) (fun _ h9 => h9) rfl dX4_closeAt_41 ?_
      refine lv_iload_n hx hb dX4_closeAt_44 rfl (lv_at hl 1 rfl) ?_
      refine lv_aload_n hx hb dX4_closeAt_45 rfl (lv_at hl 0 rfl) ?_
      refine va_get (D := G) (ci := 2) (v := .ref (qS 3)) (C := RX4) (T := TX4) (N := 6) hx hb hts fin_X4 hown hK.1 hP 0 rfl rfl 3 (by decide) (hts _ wi_87) (fun _ h9 => h9) rfl dX4_closeAt_46 ?_
      refine lv_iload_n hx hb dX4_closeAt_49 rfl (lv_at hl 1 rfl) ?_
      refine lv_iconst (v := 1) hx hb dX4_closeAt_50 (by decide) ?_
      refine lv_iadd hx hb dX4_closeAt_51 ?_
      obtain ⟨hi_6, hf⟩ := oif hf
      refine va_lald hx hb hK.1 hP 3 1 rfl rfl (inb_in hi_6) dX4_closeAt_52 ?_
      obtain ⟨hi_7, hf⟩ := oif hf
      refine va_last hx hb hK.1 hP hD hS 3 1 rfl rfl (inb_in hi_7) dX4_closeAt_53 (fun H locs hP hD hS => ?_)
      have hP := sS_bots_P hP
      have hD := sS_bots_D hD
      refine lv_iinc (v := (x2 + 1)) (lv' := [(2, .int (x2 + 1)), (0, .ref (qS 0))]) hx hb dX4_closeAt_54 hl (k := 1) rfl rfl (by decide) rfl (fun ls hl => ?_)
      refine lv_goto (tgt := 2) hx hb dX4_closeAt_57 (by decide) ?_
      exact ih (uS_bots (uS_tops (uS_keys zS (upd (gS_keys zS) x2.toNatClampNeg (gS_keys zS (x2 + (1 : Int32)).toNatClampNeg))) (vp_updL (gS_tops (uS_keys zS (upd (gS_keys zS) x2.toNatClampNeg (gS_keys zS (x2 + (1 : Int32)).toNatClampNeg)))) x2.toNatClampNeg (gS_tops (uS_keys zS (upd (gS_keys zS) x2.toNatClampNeg (gS_keys zS (x2 + (1 : Int32)).toNatClampNeg))) (x2 + (1 : Int32)).toNatClampNeg))) (vp_updL (gS_bots (uS_tops (uS_keys zS (upd (gS_keys zS) x2.toNatClampNeg (gS_keys zS (x2 + (1 : Int32)).toNatClampNeg))) (vp_updL (gS_tops (uS_keys zS (upd (gS_keys zS) x2.toNatClampNeg (gS_keys zS (x2 + (1 : Int32)).toNatClampNeg)))) x2.toNatClampNeg (gS_tops (uS_keys zS (upd (gS_keys zS) x2.toNatClampNeg (gS_keys zS (x2 + (1 : Int32)).toNatClampNeg))) (x2 + (1 : Int32)).toNatClampNeg)))) x2.toNatClampNeg (gS_bots (uS_tops (uS_keys zS (upd (gS_keys zS) x2.toNatClampNeg (gS_keys zS (x2 + (1 : Int32)).toNatClampNeg))) (vp_updL (gS_tops (uS_keys zS (upd (gS_keys zS) x2.toNatClampNeg (gS_keys zS (x2 + (1 : Int32)).toNatClampNeg)))) x2.toNatClampNeg (gS_tops (uS_keys zS (upd (gS_keys zS) x2.toNatClampNeg (gS_keys zS (x2 + (1 : Int32)).toNatClampNeg))) (x2 + (1 : Int32)).toNatClampNeg))) (x2 + (1 : Int32)).toNatClampNeg))) (x2 + 1) H locs ls hP hD hS (lv_sub hl [1, 0] rfl) hf
def f_X4_closeAt (nS : Nat) (zS : SumS) (a1 : Int32) : Option (SumS) := f_X4_closeAt_2 nS fuel zS a1
set_option maxHeartbeats 4000000 in
set_option maxRecDepth 100000 in
theorem b_X4_closeAt_0 {p : Program} {l : Launch} {e : Env} {s : State} {m : MethodId} {args : Array Value} {below : List Frame} {meth : Method} {c : Code} {G : va_G} {cA : Nat → ClassId} {W9 : va_W} (qS : Nat → Nat) (nS : Nat) (C0 : Amb p s m args meth c cX4_closeAt RX4 3 none G cA (adr W9) []) {res : SumS} : ∀ (zS : SumS) (a1 : Int32) (H : Heap) (locs : List Loc) (ls : Array Slot), va_P G vwCl ((wSum cA qS nS zS)) H → va_D (adr W9) ((wSum cA qS nS zS)) → va_S (adr W9) s.heap H locs → lv_has ls 3 [(0, .ref (qS 0)), (1, .int a1)] → f_X4_closeAt nS zS a1 = some res → W p l e rm_X4_closeAt s m args below meth c H locs 0 0 (MQ below (qWv G W9 ((wSum cA qS nS res))) args s 0 0 (adr W9)) (F0 m 0 ls []) := by
  obtain ⟨hx, hb, hr, hml, hown, hts, hlocks, hK, hR, hRA⟩ := id C0
  intro zS a1 H locs ls hP hD hS hl hf
  unfold f_X4_closeAt at hf
  refine lv_iload_n hx hb dX4_closeAt_0 rfl (lv_at hl 1 rfl) ?_
  refine lv_istore_n (lv' := [(2, .int a1), (0, .ref (qS 0)), (1, .int a1)]) hx hb dX4_closeAt_1 rfl hl (by decide) rfl (fun ls hl => ?_)
  exact b_X4_closeAt_2 qS nS   C0  fuel zS a1 H locs ls hP hD hS (lv_sub hl [1, 0] rfl) hf

set_option maxRecDepth 100000 in
theorem m_X4_closeAt (l : Launch) (G : va_G) (cA : Nat → ClassId) (qS : Nat → Nat) (nS : Nat) (zS : SumS) (a1 : Int32) (res : SumS) (hf : f_X4_closeAt nS zS a1 = some res) : MWv l yX4_closeAt (.code yX4_closeAt cX4_closeAt 3 none :: wd) rm_X4_closeAt G cA [.ref (qS 0), .int a1] ((wSum cA qS nS zS)) [] ((wSum cA qS nS res)) := by
  refine Met.ofW (cc := cX4_closeAt) (maxL := 3) (ret := none) (by decide) rfl ?_
  intro p e s m args below meth c s₁ B hml hv
  obtain ⟨rfl, hK, hP, hD0, hR, hRA⟩ := hv
  have C0 : Amb p s m ([.ref (qS 0), .int a1] : List Value).toArray meth c cX4_closeAt RX4 3 none G cA (adr ((wSum cA qS nS zS))) [] := ⟨B.exec, B.bytes, B.returns, hml, findClass_of_methodNamed B.named, fun w h => atoms_spec (ws := (.code yX4_closeAt cX4_closeAt 3 none :: wd)) B.pre w (List.mem_cons_of_mem _ h), B.notSynchronized, hK, hR, hRA⟩
  have hl := lv_entry ([.ref (qS 0), .int a1]) (n := 3) (Nat.le_of_ble_eq_true rfl)
  rw [lg_entry_eq]
  generalize (lg_sl ([.ref (qS 0), .int a1]) ++ List.replicate (3 - (lg_sl ([.ref (qS 0), .int a1])).length) Slot.unset).toArray = ls at hl ⊢
  have hl : lv_has ls 3 [(0, .ref (qS 0)), (1, .int a1)] := hl
  exact b_X4_closeAt_0 (W9 := ((wSum cA qS nS zS))) qS nS   C0 zS a1 s.heap [] ls hP (adr.self hD0) va_S.rf hl hf
theorem cw_X4_closeAt {R : Room} {s : State} {args : Array Value} {own : String} {index : Nat} (ht : ∀ w ∈ wd, w.before args s = true) (hlink : Cond.methodLink own index yX4_closeAt ∈ wd) (hR : rm_X4_closeAt.frames + 1 ≤ R.frames ∧ 8 + (3 + 11) + rm_X4_closeAt.locals ≤ R.locals) : CallW R s args own RX4 index yX4_closeAt cX4_closeAt 3 none (.code yX4_closeAt cX4_closeAt 3 none :: wd) rm_X4_closeAt 0 0 1 := cwV9 1 ht wi_408 wi_407 wi_15 wi_56 hlink (by decide +kernel) rfl rfl hR
def rm_X4_setReduced : Room := { frames := 1, cells := 0, slots := 0, locals := 30 }
def f_X4_setReduced_29 (nS : Nat) (zS : SumS) (x1 : Int32) (x2 : Int64) (x4 : Int64) (v0 : Int64) : Option (SumS) := if ¬ v0 = (0 : Int64) then if ¬ v0 = 0 then if inb x1 nS = true then if ¬ v0 = 0 then if inb x1 nS = true then some (uS_bots (uS_tops zS (vp_updL (gS_tops zS) x1.toNatClampNeg (x2 / v0))) (vp_updL (gS_bots (uS_tops zS (vp_updL (gS_tops zS) x1.toNatClampNeg (x2 / v0)))) x1.toNatClampNeg (x4 / v0))) else none else none else none else none else some (uS_ov zS (1 : Int32))
set_option maxHeartbeats 4000000 in
set_option maxRecDepth 100000 in
theorem b_X4_setReduced_29 {p : Program} {l : Launch} {e : Env} {s : State} {m : MethodId} {args : Array Value} {below : List Frame} {meth : Method} {c : Code} {G : va_G} {cA : Nat → ClassId} {W9 : va_W} (qS : Nat → Nat) (nS : Nat) (C0 : Amb p s m args meth c cX4_setReduced RX4 10 none G cA (adr W9) []) {res : SumS} : ∀ (zS : SumS) (x1 : Int32) (x2 : Int64) (x4 : Int64) (v0 : Int64) (H : Heap) (locs : List Loc) (ls : Array Slot), va_P G vwCl ((wSum cA qS nS zS)) H → va_D (adr W9) ((wSum cA qS nS zS)) → va_S (adr W9) s.heap H locs → lv_has ls 10 [(0, .ref (qS 0)), (1, .int x1), (2, .long x2), (4, .long x4)] → f_X4_setReduced_29 nS zS x1 x2 x4 v0 = some res → W p l e rm_X4_setReduced s m args below meth c H locs 0 0 (MQ below (qWv G W9 ((wSum cA qS nS res))) args s 0 0 (adr W9)) (F0 m 29 ls [.long v0]) := by
  obtain ⟨hx, hb, hr, hml, hown, hts, hlocks, hK, hR, hRA⟩ := id C0
  intro zS x1 x2 x4 v0 H locs ls hP hD hS hl hf
  unfold f_X4_setReduced_29 at hf
  refine lv_lstore (lv' := [(8, .long v0), (0, .ref (qS 0)), (1, .int x1), (2, .long x2), (4, .long x4)]) hx hb dX4_setReduced_29 hl (by decide) rfl (fun ls hl => ?_)
  refine lv_lload hx hb dX4_setReduced_31 (lv_at hl 0 rfl) ?_
  refine lv_lconst (v := (0 : Int64)) hx hb dX4_setReduced_33 (by decide) ?_
  refine W.lcmp hx hb dX4_setReduced_34 ?_
  refine lv_if_ne (tgt := 44) hx hb dX4_setReduced_35 (by decide) (fun c_1 => ?_) (fun c_1 => ?_)
  · rw [if_pos (fun h => c_1 ((lg_cmp_eq _ _).mpr h))] at hf
    refine lv_aload_n hx hb dX4_setReduced_44 rfl (lv_at hl 1 rfl) ?_
    refine va_get (D := G) (ci := 2) (v := .ref (qS 2)) (C := RX4) (T := TX4) (N := 6) hx hb hts fin_X4 hown hK.1 hP 0 rfl rfl 2 (by decide) (hts _ wi_86) (fun _ h9 => h9) rfl dX4_setReduced_45 ?_
    refine lv_iload_n hx hb dX4_setReduced_48 rfl (lv_at hl 2 rfl) ?_
    refine lv_lload_n hx hb dX4_setReduced_49 rfl (lv_at hl 3 rfl) ?_
    refine lv_lload hx hb dX4_setReduced_50 (lv_at hl 0 rfl) ?_
    obtain ⟨hn_2, hf⟩ := oif hf
    refine lv_ldiv hx hb dX4_setReduced_52 hn_2 ?_
    obtain ⟨hi_3, hf⟩ := oif hf
    refine va_last hx hb hK.1 hP hD hS 2 1 rfl rfl (inb_in hi_3) dX4_setReduced_53 (fun H locs hP hD hS => ?_)
    have hP := sS_tops_P hP
    have hD := sS_tops_D hD
    refine lv_aload_n hx hb dX4_setReduced_54 rfl (lv_at hl 1 rfl) ?_
    refine va_get (D := G) (ci := 2) (v := .ref (qS 3)) (C := RX4) (T := TX4) (N := 6) hx hb hts fin_X4 hown hK.1 hP 0 rfl rfl 3 (by decide) (hts _ wi_87) (fun _ h9 => h9) rfl dX4_setReduced_55 ?_
    refine lv_iload_n hx hb dX4_setReduced_58 rfl (lv_at hl 2 rfl) ?_
    refine lv_lload hx hb dX4_setReduced_59 (lv_at hl 4 rfl) ?_
    refine lv_lload hx hb dX4_setReduced_61 (lv_at hl 0 rfl) ?_
    obtain ⟨hn_4, hf⟩ := oif hf
    refine lv_ldiv hx hb dX4_setReduced_63 hn_4 ?_
    obtain ⟨hi_5, hf⟩ := oif hf
    refine va_last hx hb hK.1 hP hD hS 3 1 rfl rfl (inb_in hi_5) dX4_setReduced_64 (fun H locs hP hD hS => ?_)
    have hP := sS_bots_P hP
    have hD := sS_bots_D hD
    cases hf
    exact W.vret hx hb hr (fun t ht hW => ⟨⟨(), rfl, trivial, toT ht hP⟩, hS.F ht⟩) hS.2.2 dX4_setReduced_65 hlocks
  · rw [if_neg (fun h => h ((lg_cmp_eq _ _).mp c_1))] at hf
    refine lv_aload_n hx hb dX4_setReduced_38 rfl (lv_at hl 1 rfl) ?_
    refine lv_iconst (v := 1) hx hb dX4_setReduced_39 (by decide) ?_
    refine va_put (D := G) (ci := 2) (v := .int (1 : Int32)) (ty := .boolean) (C := RX4) (T := TX4) (N := 6) hx hb hts fin_X4 tyX4 tyX4_ok nmX4 hown hK.1 hP hD hS 0 rfl rfl 5 (by decide) (hts _ wi_89) (fun _ h9 => h9) rfl (by decide +kernel) (by decide) (by decide) (Nat.le_of_ble_eq_true rfl) dX4_setReduced_40 (fun H locs hP hD hS => ?_)
    have hP := sS_ov_P hP
    have hD := sS_ov_D hD
    cases hf
    exact W.vret hx hb hr (fun t ht hW => ⟨⟨(), rfl, trivial, toT ht hP⟩, hS.F ht⟩) hS.2.2 dX4_setReduced_43 hlocks
def f_X4_setReduced (nS : Nat) (zS : SumS) (a1 : Int32) (a2 : Int64) (a4 : Int64) : Option (SumS) := (f_X4_commonDivisor (mabs64 a2) (mabs64 a4)).bind fun r_1 => if (0 : Int64) ≤ a4 then f_X4_setReduced_29 nS zS a1 a2 a4 r_1 else f_X4_setReduced_29 nS zS a1 a2 a4 (-r_1)
set_option maxHeartbeats 4000000 in
set_option maxRecDepth 100000 in
theorem b_X4_setReduced_0 {p : Program} {l : Launch} {e : Env} {s : State} {m : MethodId} {args : Array Value} {below : List Frame} {meth : Method} {c : Code} {G : va_G} {cA : Nat → ClassId} {W9 : va_W} (qS : Nat → Nat) (nS : Nat) (C0 : Amb p s m args meth c cX4_setReduced RX4 10 none G cA (adr W9) []) {res : SumS} : ∀ (zS : SumS) (a1 : Int32) (a2 : Int64) (a4 : Int64) (H : Heap) (locs : List Loc) (ls : Array Slot), va_P G vwCl ((wSum cA qS nS zS)) H → va_D (adr W9) ((wSum cA qS nS zS)) → va_S (adr W9) s.heap H locs → lv_has ls 10 [(0, .ref (qS 0)), (1, .int a1), (2, .long a2), (4, .long a4)] → f_X4_setReduced nS zS a1 a2 a4 = some res → W p l e rm_X4_setReduced s m args below meth c H locs 0 0 (MQ below (qWv G W9 ((wSum cA qS nS res))) args s 0 0 (adr W9)) (F0 m 0 ls []) := by
  obtain ⟨hx, hb, hr, hml, hown, hts, hlocks, hK, hR, hRA⟩ := id C0
  intro zS a1 a2 a4 H locs ls hP hD hS hl hf
  unfold f_X4_setReduced at hf
  refine lv_lload_n hx hb dX4_setReduced_0 rfl (lv_at hl 2 rfl) ?_
  refine k_abs64 hx hb (hml.trans hl.1.symm) hown hts wi_417 (Nat.le_of_ble_eq_true rfl) (Nat.le_of_ble_eq_true rfl) (Nat.zero_le _) (Nat.zero_le _) dX4_setReduced_1 ?_
  refine lv_lload hx hb dX4_setReduced_4 (lv_at hl 3 rfl) ?_
  refine k_abs64 hx hb (hml.trans hl.1.symm) hown hts wi_417 (Nat.le_of_ble_eq_true rfl) (Nat.le_of_ble_eq_true rfl) (Nat.zero_le _) (Nat.zero_le _) dX4_setReduced_6 ?_
  obtain ⟨r_1, hr_1, hf⟩ := obd hf
  refine cRlS (As := [.long (mabs64 a2), .long (mabs64 a4)]) (rest := []) ⟨hx, hb, hml, hown, hts⟩ (m_X4_commonDivisor l G cA (mabs64 a2) (mabs64 a4) r_1 hr_1) (cw_X4_commonDivisor hts wi_420 ⟨Nat.le_of_ble_eq_true rfl, Nat.le_of_ble_eq_true rfl⟩) hK va_Pnil rfl hl.1 rfl (Nat.le_of_ble_eq_true rfl) dX4_setReduced_9 ⟨Nat.zero_le _, Nat.zero_le _⟩ ?_
  refine lv_lstore (lv' := [(6, .long r_1), (0, .ref (qS 0)), (1, .int a1), (2, .long a2), (4, .long a4)]) hx hb dX4_setReduced_12 hl (by decide) rfl (fun ls hl => ?_)
  refine lv_lload hx hb dX4_setReduced_14 (lv_at hl 4 rfl) ?_
  refine lv_lconst (v := (0 : Int64)) hx hb dX4_setReduced_16 (by decide) ?_
  refine W.lcmp hx hb dX4_setReduced_17 ?_
  refine lv_if_ge (tgt := 27) hx hb dX4_setReduced_18 (by decide) (fun c_2 => ?_) (fun c_2 => ?_)
  · rw [if_pos ((lg_cmp_ge _ _).mp c_2)] at hf
    refine lv_lload hx hb dX4_setReduced_27 (lv_at hl 0 rfl) ?_
    exact b_X4_setReduced_29 qS nS   C0  zS a1 a2 a4 r_1 H locs ls hP hD hS (lv_sub hl [1, 2, 3, 4] rfl) hf
  · rw [if_neg (fun h => c_2 ((lg_cmp_ge _ _).mpr h))] at hf
    refine lv_lload hx hb dX4_setReduced_21 (lv_at hl 0 rfl) ?_
    refine lv_lneg hx hb dX4_setReduced_23 ?_
    refine lv_goto (tgt := 29) hx hb dX4_setReduced_24 (by decide) ?_
    exact b_X4_setReduced_29 qS nS   C0  zS a1 a2 a4 (-r_1) H locs ls hP hD hS (lv_sub hl [1, 2, 3, 4] rfl) hf

set_option maxRecDepth 100000 in
theorem m_X4_setReduced (l : Launch) (G : va_G) (cA : Nat → ClassId) (qS : Nat → Nat) (nS : Nat) (zS : SumS) (a1 : Int32) (a2 : Int64) (a4 : Int64) (res : SumS) (hf : f_X4_setReduced nS zS a1 a2 a4 = some res) : MWv l yX4_setReduced (.code yX4_setReduced cX4_setReduced 10 none :: wd) rm_X4_setReduced G cA [.ref (qS 0), .int a1, .long a2, .long a4] ((wSum cA qS nS zS)) [] ((wSum cA qS nS res)) := by
  refine Met.ofW (cc := cX4_setReduced) (maxL := 10) (ret := none) (by decide) rfl ?_
  intro p e s m args below meth c s₁ B hml hv
  obtain ⟨rfl, hK, hP, hD0, hR, hRA⟩ := hv
  have C0 : Amb p s m ([.ref (qS 0), .int a1, .long a2, .long a4] : List Value).toArray meth c cX4_setReduced RX4 10 none G cA (adr ((wSum cA qS nS zS))) [] := ⟨B.exec, B.bytes, B.returns, hml, findClass_of_methodNamed B.named, fun w h => atoms_spec (ws := (.code yX4_setReduced cX4_setReduced 10 none :: wd)) B.pre w (List.mem_cons_of_mem _ h), B.notSynchronized, hK, hR, hRA⟩
  have hl := lv_entry ([.ref (qS 0), .int a1, .long a2, .long a4]) (n := 10) (Nat.le_of_ble_eq_true rfl)
  rw [lg_entry_eq]
  generalize (lg_sl ([.ref (qS 0), .int a1, .long a2, .long a4]) ++ List.replicate (10 - (lg_sl ([.ref (qS 0), .int a1, .long a2, .long a4])).length) Slot.unset).toArray = ls at hl ⊢
  have hl : lv_has ls 10 [(0, .ref (qS 0)), (1, .int a1), (2, .long a2), (4, .long a4)] := hl
  exact b_X4_setReduced_0 (W9 := ((wSum cA qS nS zS))) qS nS   C0 zS a1 a2 a4 s.heap [] ls hP (adr.self hD0) va_S.rf hl hf
theorem cw_X4_setReduced {R : Room} {s : State} {args : Array Value} {own : String} {index : Nat} (ht : ∀ w ∈ wd, w.before args s = true) (hlink : Cond.methodLink own index yX4_setReduced ∈ wd) (hR : rm_X4_setReduced.frames + 1 ≤ R.frames ∧ 8 + (10 + 11) + rm_X4_setReduced.locals ≤ R.locals) : CallW R s args own RX4 index yX4_setReduced cX4_setReduced 10 none (.code yX4_setReduced cX4_setReduced 10 none :: wd) rm_X4_setReduced 0 0 3 := cwV9 3 ht wi_416 wi_415 wi_17 wi_56 hlink (by decide +kernel) rfl rfl hR
def rm_X4_addUp : Room := { frames := 2, cells := 0, slots := 0, locals := 59 }
def f_X4_addUp_126 (nS : Nat) (zS : SumS) (x1 : Int32) (x6 : Int32) (x8 : Int64) (x10 : Int64) : Option (SumS) := if inb x6 nS = true then (f_X4_setReduced nS (uS_keys zS (upd (gS_keys zS) x6.toNatClampNeg x1)) x6 x8 x10).bind fun r_2 => some r_2 else none
set_option maxHeartbeats 4000000 in
set_option maxRecDepth 100000 in
theorem b_X4_addUp_126 {p : Program} {l : Launch} {e : Env} {s : State} {m : MethodId} {args : Array Value} {below : List Frame} {meth : Method} {c : Code} {G : va_G} {cA : Nat → ClassId} {W9 : va_W} (qS : Nat → Nat) (nS : Nat) (C0 : Amb p s m args meth c cX4_addUp RX4 12 none G cA (adr W9) []) {res : SumS} : ∀ (zS : SumS) (x1 : Int32) (x6 : Int32) (x8 : Int64) (x10 : Int64) (H : Heap) (locs : List Loc) (ls : Array Slot), va_P G vwCl ((wSum cA qS nS zS)) H → va_D (adr W9) ((wSum cA qS nS zS)) → va_S (adr W9) s.heap H locs → lv_has ls 12 [(0, .ref (qS 0)), (1, .int x1), (6, .int x6), (8, .long x8), (10, .long x10)] → f_X4_addUp_126 nS zS x1 x6 x8 x10 = some res → W p l e rm_X4_addUp s m args below meth c H locs 0 0 (MQ below (qWv G W9 ((wSum cA qS nS res))) args s 0 0 (adr W9)) (F0 m 126 ls []) := by
  obtain ⟨hx, hb, hr, hml, hown, hts, hlocks, hK, hR, hRA⟩ := id C0
  intro zS x1 x6 x8 x10 H locs ls hP hD hS hl hf
  unfold f_X4_addUp_126 at hf
  refine lv_aload_n hx hb dX4_addUp_126 rfl (lv_at hl 0 rfl) ?_
  refine va_get (D := G) (ci := 2) (v := .ref (qS 1)) (C := RX4) (T := TX4) (N := 6) hx hb hts fin_X4 hown hK.1 hP 0 rfl rfl 1 (by decide) (hts _ wi_85) (fun _ h9 => h9) rfl dX4_addUp_127 ?_
  refine lv_iload hx hb dX4_addUp_130 (lv_at hl 2 rfl) ?_
  refine lv_iload_n hx hb dX4_addUp_132 rfl (lv_at hl 1 rfl) ?_
  obtain ⟨hi_1, hf⟩ := oif hf
  refine va_iast hx hb hK.1 hP hD hS 1 0 rfl rfl (inb_in hi_1) dX4_addUp_133 (fun H locs hP hD hS => ?_)
  have hP := sS_keys_P hP
  have hD := sS_keys_D hD
  refine lv_aload_n hx hb dX4_addUp_134 rfl (lv_at hl 0 rfl) ?_
  refine lv_iload hx hb dX4_addUp_135 (lv_at hl 2 rfl) ?_
  refine lv_lload hx hb dX4_addUp_137 (lv_at hl 3 rfl) ?_
  refine lv_lload hx hb dX4_addUp_139 (lv_at hl 4 rfl) ?_
  obtain ⟨r_2, hr_2, hf⟩ := obd hf
  refine cWvV (As := [.int x6, .long x8, .long x10]) (rest := []) (W1 := ((wSum cA qS nS r_2))) ⟨hx, hb, hml, hown, hts⟩ (m_X4_setReduced l G cA qS nS (uS_keys zS (upd (gS_keys zS) x6.toNatClampNeg x1)) x6 x8 x10 r_2 hr_2) (cw_X4_setReduced hts wi_413 ⟨Nat.le_of_ble_eq_true rfl, Nat.le_of_ble_eq_true rfl⟩) hK hP hD hS [0, 1, 2, 3] [4, 5, 6, 7] rfl rfl rfl (by decide) rfl va_Pnil dj_nil (va_recv hK.1 hP (ci := 2) (q0 := 0) rfl rfl) rfl hl.1 rfl (Nat.le_of_ble_eq_true rfl) dX4_addUp_141 ⟨Nat.zero_le _, Nat.zero_le _⟩ (fun H locs hP hD hS => ?_)
  cases hf
  exact W.vret hx hb hr (fun t ht hW => ⟨⟨(), rfl, trivial, toT ht hP⟩, hS.F ht⟩) hS.2.2 dX4_addUp_144 hlocks
def f_X4_addUp_85 (nS : Nat) (zS : SumS) (x1 : Int32) (x6 : Int32) (x7 : Int32) (x8 : Int64) (v0 : Int64) : Option (SumS) := if ¬ x8 = (0 : Int64) then if ¬ x7 = 0 then f_X4_addUp_126 nS zS x1 x6 x8 v0 else (f_X4_openAt nS zS x6).bind fun r_3 => if ¬ r_3.1 = 0 then f_X4_addUp_126 nS r_3.2 x1 x6 x8 v0 else some (uS_ov r_3.2 (1 : Int32)) else if x7 = 0 then some zS else (f_X4_closeAt nS zS x6).bind fun r_6 => some r_6
set_option maxHeartbeats 4000000 in
set_option maxRecDepth 100000 in
theorem b_X4_addUp_85 {p : Program} {l : Launch} {e : Env} {s : State} {m : MethodId} {args : Array Value} {below : List Frame} {meth : Method} {c : Code} {G : va_G} {cA : Nat → ClassId} {W9 : va_W} (qS : Nat → Nat) (nS : Nat) (C0 : Amb p s m args meth c cX4_addUp RX4 12 none G cA (adr W9) []) {res : SumS} : ∀ (zS : SumS) (x1 : Int32) (x6 : Int32) (x7 : Int32) (x8 : Int64) (v0 : Int64) (H : Heap) (locs : List Loc) (ls : Array Slot), va_P G vwCl ((wSum cA qS nS zS)) H → va_D (adr W9) ((wSum cA qS nS zS)) → va_S (adr W9) s.heap H locs → lv_has ls 12 [(0, .ref (qS 0)), (1, .int x1), (6, .int x6), (7, .int x7), (8, .long x8)] → f_X4_addUp_85 nS zS x1 x6 x7 x8 v0 = some res → W p l e rm_X4_addUp s m args below meth c H locs 0 0 (MQ below (qWv G W9 ((wSum cA qS nS res))) args s 0 0 (adr W9)) (F0 m 85 ls [.long v0]) := by
  obtain ⟨hx, hb, hr, hml, hown, hts, hlocks, hK, hR, hRA⟩ := id C0
  intro zS x1 x6 x7 x8 v0 H locs ls hP hD hS hl hf
  unfold f_X4_addUp_85 at hf
  refine lv_lstore (lv' := [(10, .long v0), (0, .ref (qS 0)), (1, .int x1), (6, .int x6), (7, .int x7), (8, .long x8)]) hx hb dX4_addUp_85 hl (by decide) rfl (fun ls hl => ?_)
  refine lv_lload hx hb dX4_addUp_87 (lv_at hl 5 rfl) ?_
  refine lv_lconst (v := (0 : Int64)) hx hb dX4_addUp_89 (by decide) ?_
  refine W.lcmp hx hb dX4_addUp_90 ?_
  refine lv_if_ne (tgt := 106) hx hb dX4_addUp_91 (by decide) (fun c_1 => ?_) (fun c_1 => ?_)
  · rw [if_pos (fun h => c_1 ((lg_cmp_eq _ _).mpr h))] at hf
    refine lv_iload hx hb dX4_addUp_106 (lv_at hl 4 rfl) ?_
    refine lv_if_ne (tgt := 126) hx hb dX4_addUp_108 (by decide) (fun c_2 => ?_) (fun c_2 => ?_)
    · rw [if_pos (c_2)] at hf
      exact b_X4_addUp_126 qS nS   C0  zS x1 x6 x8 v0 H locs ls hP hD hS (lv_sub hl [1, 2, 3, 5, 0] rfl) hf
    · rw [if_neg (not_not_intro c_2)] at hf
      refine lv_aload_n hx hb dX4_addUp_111 rfl (lv_at hl 1 rfl) ?_
      refine lv_iload hx hb dX4_addUp_112 (lv_at hl 3 rfl) ?_
      obtain ⟨r_3, hr_3, hf⟩ := obd hf
      refine cWiV (As := [.int x6]) (rest := []) (W1 := ((wSum cA qS nS r_3.2))) ⟨hx, hb, hml, hown, hts⟩ (m_X4_openAt l G cA qS nS zS x6 r_3 hr_3) (cw_X4_openAt hts wi_409 ⟨Nat.le_of_ble_eq_true rfl, Nat.le_of_ble_eq_true rfl⟩) hK hP hD hS [0, 1, 2, 3] [4, 5, 6, 7] rfl rfl rfl (by decide) rfl va_Pnil dj_nil (va_recv hK.1 hP (ci := 2) (q0 := 0) rfl rfl) rfl hl.1 rfl (Nat.le_of_ble_eq_true rfl) dX4_addUp_114 ⟨Nat.zero_le _, Nat.zero_le _⟩ (fun H locs hP hD hS => ?_)
      refine lv_if_ne (tgt := 126) hx hb dX4_addUp_117 (by decide) (fun c_4 => ?_) (fun c_4 => ?_)
      · rw [if_pos (c_4)] at hf
        exact b_X4_addUp_126 qS nS   C0  r_3.2 x1 x6 x8 v0 H locs ls hP hD hS (lv_sub hl [1, 2, 3, 5, 0] rfl) hf
      · rw [if_neg (not_not_intro c_4)] at hf
        refine lv_aload_n hx hb dX4_addUp_120 rfl (lv_at hl 1 rfl) ?_
        refine lv_iconst (v := 1) hx hb dX4_addUp_121 (by decide) ?_
        refine va_put (D := G) (ci := 2) (v := .int (1 : Int32)) (ty := .boolean) (C := RX4) (T := TX4) (N := 6) hx hb hts fin_X4 tyX4 tyX4_ok nmX4 hown hK.1 hP hD hS 0 rfl rfl 5 (by decide) (hts _ wi_89) (fun _ h9 => h9) rfl (by decide +kernel) (by decide) (by decide) (Nat.le_of_ble_eq_true rfl) dX4_addUp_122 (fun H locs hP hD hS => ?_)
        have hP := sS_ov_P hP
        have hD := sS_ov_D hD
        cases hf
        exact W.vret hx hb hr (fun t ht hW => ⟨⟨(), rfl, trivial, toT ht hP⟩, hS.F ht⟩) hS.2.2 dX4_addUp_125 hlocks
  · rw [if_neg (fun h => h ((lg_cmp_eq _ _).mp c_1))] at hf
    refine lv_iload hx hb dX4_addUp_94 (lv_at hl 4 rfl) ?_
    refine lv_if_eq (tgt := 105) hx hb dX4_addUp_96 (by decide) (fun c_5 => ?_) (fun c_5 => ?_)
    · rw [if_pos (c_5)] at hf
      cases hf
      exact W.vret hx hb hr (fun t ht hW => ⟨⟨(), rfl, trivial, toT ht hP⟩, hS.F ht⟩) hS.2.2 dX4_addUp_105 hlocks
    · rw [if_neg (c_5)] at hf
      refine lv_aload_n hx hb dX4_addUp_99 rfl (lv_at hl 1 rfl) ?_
      refine lv_iload hx hb dX4_addUp_100 (lv_at hl 3 rfl) ?_
      obtain ⟨r_6, hr_6, hf⟩ := obd hf
      refine cWvV (As := [.int x6]) (rest := []) (W1 := ((wSum cA qS nS r_6))) ⟨hx, hb, hml, hown, hts⟩ (m_X4_closeAt l G cA qS nS zS x6 r_6 hr_6) (cw_X4_closeAt hts wi_405 ⟨Nat.le_of_ble_eq_true rfl, Nat.le_of_ble_eq_true rfl⟩) hK hP hD hS [0, 1, 2, 3] [4, 5, 6, 7] rfl rfl rfl (by decide) rfl va_Pnil dj_nil (va_recv hK.1 hP (ci := 2) (q0 := 0) rfl rfl) rfl hl.1 rfl (Nat.le_of_ble_eq_true rfl) dX4_addUp_102 ⟨Nat.zero_le _, Nat.zero_le _⟩ (fun H locs hP hD hS => ?_)
      cases hf
      exact W.vret hx hb hr (fun t ht hW => ⟨⟨(), rfl, trivial, toT ht hP⟩, hS.F ht⟩) hS.2.2 dX4_addUp_105 hlocks
def f_X4_addUp_63 (nS : Nat) (zS : SumS) (x1 : Int32) (x4 : Int64) (x6 : Int32) (x7 : Int32) (v0 : Int64) : Option (SumS) := if x7 = 0 then f_X4_addUp_85 nS zS x1 x6 x7 v0 x4 else if inb x6 nS = true then f_X4_addUp_85 nS zS x1 x6 x7 v0 ((gS_bots zS x6.toNatClampNeg) * x4) else none
set_option maxHeartbeats 4000000 in
set_option maxRecDepth 100000 in
theorem b_X4_addUp_63 {p : Program} {l : Launch} {e : Env} {s : State} {m : MethodId} {args : Array Value} {below : List Frame} {meth : Method} {c : Code} {G : va_G} {cA : Nat → ClassId} {W9 : va_W} (qS : Nat → Nat) (nS : Nat) (C0 : Amb p s m args meth c cX4_addUp RX4 12 none G cA (adr W9) []) {res : SumS} : ∀ (zS : SumS) (x1 : Int32) (x4 : Int64) (x6 : Int32) (x7 : Int32) (v0 : Int64) (H : Heap) (locs : List Loc) (ls : Array Slot), va_P G vwCl ((wSum cA qS nS zS)) H → va_D (adr W9) ((wSum cA qS nS zS)) → va_S (adr W9) s.heap H locs → lv_has ls 12 [(0, .ref (qS 0)), (1, .int x1), (4, .long x4), (6, .int x6), (7, .int x7)] → f_X4_addUp_63 nS zS x1 x4 x6 x7 v0 = some res → W p l e rm_X4_addUp s m args below meth c H locs 0 0 (MQ below (qWv G W9 ((wSum cA qS nS res))) args s 0 0 (adr W9)) (F0 m 63 ls [.long v0]) := by
  obtain ⟨hx, hb, hr, hml, hown, hts, hlocks, hK, hR, hRA⟩ := id C0
  intro zS x1 x4 x6 x7 v0 H locs ls hP hD hS hl hf
  unfold f_X4_addUp_63 at hf
  refine lv_lstore (lv' := [(8, .long v0), (0, .ref (qS 0)), (1, .int x1), (4, .long x4), (6, .int x6), (7, .int x7)]) hx hb dX4_addUp_63 hl (by decide) rfl (fun ls hl => ?_)
  refine lv_iload hx hb dX4_addUp_65 (lv_at hl 5 rfl) ?_
  refine lv_if_eq (tgt := 83) hx hb dX4_addUp_67 (by decide) (fun c_1 => ?_) (fun c_1 => ?_)
  · rw [if_pos (c_1)] at hf
    refine lv_lload hx hb dX4_addUp_83 (lv_at hl 3 rfl) ?_
    exact b_X4_addUp_85 qS nS   C0  zS x1 x6 x7 v0 x4 H locs ls hP hD hS (lv_sub hl [1, 2, 4, 5, 0] rfl) hf
  · rw [if_neg (c_1)] at hf
    refine lv_aload_n hx hb dX4_addUp_70 rfl (lv_at hl 1 rfl) ?_
    refine va_get (D := G) (ci := 2) (v := .ref (qS 3)) (C := RX4) (T := TX4) (N := 6) hx hb hts fin_X4 hown hK.1 hP 0 rfl rfl 3 (by decide) (hts _ wi_87) (fun _ h9 => h9) rfl dX4_addUp_71 ?_
    refine lv_iload hx hb dX4_addUp_74 (lv_at hl 4 rfl) ?_
    obtain ⟨hi_2, hf⟩ := oif hf
    refine va_lald hx hb hK.1 hP 3 1 rfl rfl (inb_in hi_2) dX4_addUp_76 ?_
    refine lv_lload hx hb dX4_addUp_77 (lv_at hl 3 rfl) ?_
    refine lv_lmul hx hb dX4_addUp_79 ?_
    refine lv_goto (tgt := 85) hx hb dX4_addUp_80 (by decide) ?_
    exact b_X4_addUp_85 qS nS   C0  zS x1 x6 x7 v0 ((gS_bots zS x6.toNatClampNeg) * x4) H locs ls hP hD hS (lv_sub hl [1, 2, 4, 5, 0] rfl) hf
def f_X4_addUp_32 (nS : Nat) (zS : SumS) (x1 : Int32) (x2 : Int64) (x4 : Int64) (x6 : Int32) (v0 : Int32) : Option (SumS) := if v0 = 0 then f_X4_addUp_63 nS zS x1 x4 x6 v0 x2 else if inb x6 nS = true then if inb x6 nS = true then f_X4_addUp_63 nS zS x1 x4 x6 v0 (((gS_tops zS x6.toNatClampNeg) * x4) + (x2 * (gS_bots zS x6.toNatClampNeg))) else none else none
set_option maxHeartbeats 4000000 in
set_option maxRecDepth 100000 in
theorem b_X4_addUp_32 {p : Program} {l : Launch} {e : Env} {s : State} {m : MethodId} {args : Array Value} {below : List Frame} {meth : Method} {c : Code} {G : va_G} {cA : Nat → ClassId} {W9 : va_W} (qS : Nat → Nat) (nS : Nat) (C0 : Amb p s m args meth c cX4_addUp RX4 12 none G cA (adr W9) []) {res : SumS} : ∀ (zS : SumS) (x1 : Int32) (x2 : Int64) (x4 : Int64) (x6 : Int32) (v0 : Int32) (H : Heap) (locs : List Loc) (ls : Array Slot), va_P G vwCl ((wSum cA qS nS zS)) H → va_D (adr W9) ((wSum cA qS nS zS)) → va_S (adr W9) s.heap H locs → lv_has ls 12 [(0, .ref (qS 0)), (1, .int x1), (2, .long x2), (4, .long x4), (6, .int x6)] → f_X4_addUp_32 nS zS x1 x2 x4 x6 v0 = some res → W p l e rm_X4_addUp s m args below meth c H locs 0 0 (MQ below (qWv G W9 ((wSum cA qS nS res))) args s 0 0 (adr W9)) (F0 m 32 ls [.int v0]) := by
  obtain ⟨hx, hb, hr, hml, hown, hts, hlocks, hK, hR, hRA⟩ := id C0
  intro zS x1 x2 x4 x6 v0 H locs ls hP hD hS hl hf
  unfold f_X4_addUp_32 at hf
  refine lv_istore (lv' := [(7, .int v0), (0, .ref (qS 0)), (1, .int x1), (2, .long x2), (4, .long x4), (6, .int x6)]) hx hb dX4_addUp_32 hl (by decide) rfl (fun ls hl => ?_)
  refine lv_iload hx hb dX4_addUp_34 (lv_at hl 0 rfl) ?_
  refine lv_if_eq (tgt := 62) hx hb dX4_addUp_36 (by decide) (fun c_1 => ?_) (fun c_1 => ?_)
  · rw [if_pos (c_1)] at hf
    refine lv_lload_n hx hb dX4_addUp_62 rfl (lv_at hl 3 rfl) ?_
    exact b_X4_addUp_63 qS nS   C0  zS x1 x4 x6 v0 x2 H locs ls hP hD hS (lv_sub hl [1, 2, 4, 5, 0] rfl) hf
  · rw [if_neg (c_1)] at hf
    refine lv_aload_n hx hb dX4_addUp_39 rfl (lv_at hl 1 rfl) ?_
    refine va_get (D := G) (ci := 2) (v := .ref (qS 2)) (C := RX4) (T := TX4) (N := 6) hx hb hts fin_X4 hown hK.1 hP 0 rfl rfl 2 (by decide) (hts _ wi_86) (fun _ h9 => h9) rfl dX4_addUp_40 ?_
    refine lv_iload hx hb dX4_addUp_43 (lv_at hl 5 rfl) ?_
    obtain ⟨hi_2, hf⟩ := oif hf
    refine va_lald hx hb hK.1 hP 2 1 rfl rfl (inb_in hi_2) dX4_addUp_45 ?_
    refine lv_lload hx hb dX4_addUp_46 (lv_at hl 4 rfl) ?_
    refine lv_lmul hx hb dX4_addUp_48 ?_
    refine lv_lload_n hx hb dX4_addUp_49 rfl (lv_at hl 3 rfl) ?_
    refine lv_aload_n hx hb dX4_addUp_50 rfl (lv_at hl 1 rfl) ?_
    refine va_get (D := G) (ci := 2) (v := .ref (qS 3)) (C := RX4) (T := TX4) (N := 6) hx hb hts fin_X4 hown hK.1 hP 0 rfl rfl 3 (by decide) (hts _ wi_87) (fun _ h9 => h9) rfl dX4_addUp_51 ?_
    refine lv_iload hx hb dX4_addUp_54 (lv_at hl 5 rfl) ?_
    obtain ⟨hi_3, hf⟩ := oif hf
    refine va_lald hx hb hK.1 hP 3 1 rfl rfl (inb_in hi_3) dX4_addUp_56 ?_
    refine lv_lmul hx hb dX4_addUp_57 ?_
    refine lv_ladd hx hb dX4_addUp_58 ?_
    refine lv_goto (tgt := 63) hx hb dX4_addUp_59 (by decide) ?_
    exact b_X4_addUp_63 qS nS   C0  zS x1 x4 x6 v0 (((gS_tops zS x6.toNatClampNeg) * x4) + (x2 * (gS_bots zS x6.toNatClampNeg))) H locs ls hP hD hS (lv_sub hl [1, 2, 4, 5, 0] rfl) hf
def f_X4_addUp_31 (nS : Nat) (zS : SumS) (x1 : Int32) (x2 : Int64) (x4 : Int64) (x6 : Int32) : Option (SumS) := f_X4_addUp_32 nS zS x1 x2 x4 x6 (0 : Int32)
set_option maxHeartbeats 4000000 in
set_option maxRecDepth 100000 in
theorem b_X4_addUp_31 {p : Program} {l : Launch} {e : Env} {s : State} {m : MethodId} {args : Array Value} {below : List Frame} {meth : Method} {c : Code} {G : va_G} {cA : Nat → ClassId} {W9 : va_W} (qS : Nat → Nat) (nS : Nat) (C0 : Amb p s m args meth c cX4_addUp RX4 12 none G cA (adr W9) []) {res : SumS} : ∀ (zS : SumS) (x1 : Int32) (x2 : Int64) (x4 : Int64) (x6 : Int32) (H : Heap) (locs : List Loc) (ls : Array Slot), va_P G vwCl ((wSum cA qS nS zS)) H → va_D (adr W9) ((wSum cA qS nS zS)) → va_S (adr W9) s.heap H locs → lv_has ls 12 [(0, .ref (qS 0)), (1, .int x1), (2, .long x2), (4, .long x4), (6, .int x6)] → f_X4_addUp_31 nS zS x1 x2 x4 x6 = some res → W p l e rm_X4_addUp s m args below meth c H locs 0 0 (MQ below (qWv G W9 ((wSum cA qS nS res))) args s 0 0 (adr W9)) (F0 m 31 ls []) := by
  obtain ⟨hx, hb, hr, hml, hown, hts, hlocks, hK, hR, hRA⟩ := id C0
  intro zS x1 x2 x4 x6 H locs ls hP hD hS hl hf
  unfold f_X4_addUp_31 at hf
  refine lv_iconst (v := 0) hx hb dX4_addUp_31 (by decide) ?_
  exact b_X4_addUp_32 qS nS   C0  zS x1 x2 x4 x6 (0 : Int32) H locs ls hP hD hS (lv_sub hl [0, 1, 2, 3, 4] rfl) hf
def f_X4_addUp (nS : Nat) (zS : SumS) (a1 : Int32) (a2 : Int64) (a4 : Int64) : Option (SumS) := (f_X4_placeFor nS zS a1).bind fun r_1 => if (gS_size zS) ≤ r_1 then f_X4_addUp_31 nS zS a1 a2 a4 r_1 else if inb r_1 nS = true then if ¬ (gS_keys zS r_1.toNatClampNeg) = a1 then f_X4_addUp_31 nS zS a1 a2 a4 r_1 else f_X4_addUp_32 nS zS a1 a2 a4 r_1 (1 : Int32) else none
set_option maxHeartbeats 4000000 in
set_option maxRecDepth 100000 in
theorem b_X4_addUp_0 {p : Program} {l : Launch} {e : Env} {s : State} {m : MethodId} {args : Array Value} {below : List Frame} {meth : Method} {c : Code} {G : va_G} {cA : Nat → ClassId} {W9 : va_W} (qS : Nat → Nat) (nS : Nat) (C0 : Amb p s m args meth c cX4_addUp RX4 12 none G cA (adr W9) []) {res : SumS} : ∀ (zS : SumS) (a1 : Int32) (a2 : Int64) (a4 : Int64) (H : Heap) (locs : List Loc) (ls : Array Slot), va_P G vwCl ((wSum cA qS nS zS)) H → va_D (adr W9) ((wSum cA qS nS zS)) → va_S (adr W9) s.heap H locs → lv_has ls 12 [(0, .ref (qS 0)), (1, .int a1), (2, .long a2), (4, .long a4)] → f_X4_addUp nS zS a1 a2 a4 = some res → W p l e rm_X4_addUp s m args below meth c H locs 0 0 (MQ below (qWv G W9 ((wSum cA qS nS res))) args s 0 0 (adr W9)) (F0 m 0 ls []) := by
  obtain ⟨hx, hb, hr, hml, hown, hts, hlocks, hK, hR, hRA⟩ := id C0
  intro zS a1 a2 a4 H locs ls hP hD hS hl hf
  unfold f_X4_addUp at hf
  refine lv_aload_n hx hb dX4_addUp_0 rfl (lv_at hl 0 rfl) ?_
  refine lv_iload_n hx hb dX4_addUp_1 rfl (lv_at hl 1 rfl) ?_
  obtain ⟨r_1, hr_1, hf⟩ := obd hf
  refine cRiV (As := [.int a1]) (rest := []) ⟨hx, hb, hml, hown, hts⟩ (m_X4_placeFor l G cA qS nS zS a1 r_1 hr_1) (cw_X4_placeFor hts wi_401 ⟨Nat.le_of_ble_eq_true rfl, Nat.le_of_ble_eq_true rfl⟩) hK (pk hP [0, 1, 2, 3] rfl) (va_recv hK.1 hP (ci := 2) (q0 := 0) rfl rfl) rfl hl.1 rfl (Nat.le_of_ble_eq_true rfl) dX4_addUp_2 ⟨Nat.zero_le _, Nat.zero_le _⟩ ?_
  refine lv_istore (lv' := [(6, .int r_1), (0, .ref (qS 0)), (1, .int a1), (2, .long a2), (4, .long a4)]) hx hb dX4_addUp_5 hl (by decide) rfl (fun ls hl => ?_)
  refine lv_iload hx hb dX4_addUp_7 (lv_at hl 0 rfl) ?_
  refine lv_aload_n hx hb dX4_addUp_9 rfl (lv_at hl 1 rfl) ?_
  refine va_get (D := G) (ci := 2) (v := .int (gS_size zS)) (C := RX4) (T := TX4) (N := 6) hx hb hts fin_X4 hown hK.1 hP 0 rfl rfl 4 (by decide) (hts _ wi_88) (fun _ h9 => h9) rfl dX4_addUp_10 ?_
  refine lv_icmp_ge (tgt := 31) hx hb dX4_addUp_13 (by decide) (fun c_2 => ?_) (fun c_2 => ?_)
  · rw [if_pos (c_2)] at hf
    exact b_X4_addUp_31 qS nS   C0  zS a1 a2 a4 r_1 H locs ls hP hD hS (lv_sub hl [1, 2, 3, 4, 0] rfl) hf
  · rw [if_neg (c_2)] at hf
    refine lv_aload_n hx hb dX4_addUp_16 rfl (lv_at hl 1 rfl) ?_
    refine va_get (D := G) (ci := 2) (v := .ref (qS 1)) (C := RX4) (T := TX4) (N := 6) hx hb hts fin_X4 hown hK.1 hP 0 rfl rfl 1 (by decide) (hts _ wi_85) (fun _ h9 => h9) rfl dX4_addUp_17 ?_
    refine lv_iload hx hb dX4_addUp_20 (lv_at hl 0 rfl) ?_
    obtain ⟨hi_3, hf⟩ := oif hf
    refine va_iald hx hb hK.1 hP 1 0 rfl rfl (inb_in hi_3) dX4_addUp_22 ?_
    refine lv_iload_n hx hb dX4_addUp_23 rfl (lv_at hl 2 rfl) ?_
    refine lv_icmp_ne (tgt := 31) hx hb dX4_addUp_24 (by decide) (fun c_4 => ?_) (fun c_4 => ?_)
    · rw [if_pos (c_4)] at hf
      exact b_X4_addUp_31 qS nS   C0  zS a1 a2 a4 r_1 H locs ls hP hD hS (lv_sub hl [1, 2, 3, 4, 0] rfl) hf
    · rw [if_neg (not_not_intro c_4)] at hf
      refine lv_iconst (v := 1) hx hb dX4_addUp_27 (by decide) ?_
      refine lv_goto (tgt := 32) hx hb dX4_addUp_28 (by decide) ?_
      exact b_X4_addUp_32 qS nS   C0  zS a1 a2 a4 r_1 (1 : Int32) H locs ls hP hD hS (lv_sub hl [1, 2, 3, 4, 0] rfl) hf

set_option maxRecDepth 100000 in
theorem m_X4_addUp (l : Launch) (G : va_G) (cA : Nat → ClassId) (qS : Nat → Nat) (nS : Nat) (zS : SumS) (a1 : Int32) (a2 : Int64) (a4 : Int64) (res : SumS) (hf : f_X4_addUp nS zS a1 a2 a4 = some res) : MWv l yX4_addUp (.code yX4_addUp cX4_addUp 12 none :: wd) rm_X4_addUp G cA [.ref (qS 0), .int a1, .long a2, .long a4] ((wSum cA qS nS zS)) [] ((wSum cA qS nS res)) := by
  refine Met.ofW (cc := cX4_addUp) (maxL := 12) (ret := none) (by decide) rfl ?_
  intro p e s m args below meth c s₁ B hml hv
  obtain ⟨rfl, hK, hP, hD0, hR, hRA⟩ := hv
  have C0 : Amb p s m ([.ref (qS 0), .int a1, .long a2, .long a4] : List Value).toArray meth c cX4_addUp RX4 12 none G cA (adr ((wSum cA qS nS zS))) [] := ⟨B.exec, B.bytes, B.returns, hml, findClass_of_methodNamed B.named, fun w h => atoms_spec (ws := (.code yX4_addUp cX4_addUp 12 none :: wd)) B.pre w (List.mem_cons_of_mem _ h), B.notSynchronized, hK, hR, hRA⟩
  have hl := lv_entry ([.ref (qS 0), .int a1, .long a2, .long a4]) (n := 12) (Nat.le_of_ble_eq_true rfl)
  rw [lg_entry_eq]
  generalize (lg_sl ([.ref (qS 0), .int a1, .long a2, .long a4]) ++ List.replicate (12 - (lg_sl ([.ref (qS 0), .int a1, .long a2, .long a4])).length) Slot.unset).toArray = ls at hl ⊢
  have hl : lv_has ls 12 [(0, .ref (qS 0)), (1, .int a1), (2, .long a2), (4, .long a4)] := hl
  exact b_X4_addUp_0 (W9 := ((wSum cA qS nS zS))) qS nS   C0 zS a1 a2 a4 s.heap [] ls hP (adr.self hD0) va_S.rf hl hf
theorem cw_X4_addUp {R : Room} {s : State} {args : Array Value} {own : String} {index : Nat} (ht : ∀ w ∈ wd, w.before args s = true) (hlink : Cond.methodLink own index yX4_addUp ∈ wd) (hR : rm_X4_addUp.frames + 1 ≤ R.frames ∧ 8 + (12 + 11) + rm_X4_addUp.locals ≤ R.locals) : CallW R s args own RX4 index yX4_addUp cX4_addUp 12 none (.code yX4_addUp cX4_addUp 12 none :: wd) rm_X4_addUp 0 0 3 := cwV9 3 ht wi_400 wi_399 wi_13 wi_56 hlink (by decide +kernel) rfl rfl hR
def rm_X4_put : Room := { frames := 3, cells := 0, slots := 0, locals := 90 }
def f_X4_put_81 (nS : Nat) (zS : SumS) (x1 : Int32) (x2 : Int32) (x3 : Int32) (x4 : Int64) (x6 : Int64) : Option (SumS) := (f_X4_keyOf x1 x2 x3).bind fun r_1 => (f_X4_addUp nS zS r_1 x4 x6).bind fun r_2 => some r_2
set_option maxHeartbeats 4000000 in
set_option maxRecDepth 100000 in
theorem b_X4_put_81 {p : Program} {l : Launch} {e : Env} {s : State} {m : MethodId} {args : Array Value} {below : List Frame} {meth : Method} {c : Code} {G : va_G} {cA : Nat → ClassId} {W9 : va_W} (qS : Nat → Nat) (nS : Nat) (C0 : Amb p s m args meth c cX4_put RX4 9 none G cA (adr W9) []) {res : SumS} : ∀ (zS : SumS) (x1 : Int32) (x2 : Int32) (x3 : Int32) (x4 : Int64) (x6 : Int64) (H : Heap) (locs : List Loc) (ls : Array Slot), va_P G vwCl ((wSum cA qS nS zS)) H → va_D (adr W9) ((wSum cA qS nS zS)) → va_S (adr W9) s.heap H locs → lv_has ls 9 [(0, .ref (qS 0)), (1, .int x1), (2, .int x2), (3, .int x3), (4, .long x4), (6, .long x6)] → f_X4_put_81 nS zS x1 x2 x3 x4 x6 = some res → W p l e rm_X4_put s m args below meth c H locs 0 0 (MQ below (qWv G W9 ((wSum cA qS nS res))) args s 0 0 (adr W9)) (F0 m 81 ls []) := by
  obtain ⟨hx, hb, hr, hml, hown, hts, hlocks, hK, hR, hRA⟩ := id C0
  intro zS x1 x2 x3 x4 x6 H locs ls hP hD hS hl hf
  unfold f_X4_put_81 at hf
  refine lv_aload_n hx hb dX4_put_81 rfl (lv_at hl 0 rfl) ?_
  refine lv_iload_n hx hb dX4_put_82 rfl (lv_at hl 1 rfl) ?_
  refine lv_iload_n hx hb dX4_put_83 rfl (lv_at hl 2 rfl) ?_
  refine lv_iload_n hx hb dX4_put_84 rfl (lv_at hl 3 rfl) ?_
  obtain ⟨r_1, hr_1, hf⟩ := obd hf
  refine cRiS (As := [.int x1, .int x2, .int x3]) (rest := [.ref (qS 0)]) ⟨hx, hb, hml, hown, hts⟩ (m_X4_keyOf l G cA x1 x2 x3 r_1 hr_1) (cw_X4_keyOf hts wi_394 ⟨Nat.le_of_ble_eq_true rfl, Nat.le_of_ble_eq_true rfl⟩) hK va_Pnil rfl hl.1 rfl (Nat.le_of_ble_eq_true rfl) dX4_put_85 ⟨Nat.zero_le _, Nat.zero_le _⟩ ?_
  refine lv_lload hx hb dX4_put_88 (lv_at hl 4 rfl) ?_
  refine lv_lload hx hb dX4_put_90 (lv_at hl 5 rfl) ?_
  obtain ⟨r_2, hr_2, hf⟩ := obd hf
  refine cWvV (As := [.int r_1, .long x4, .long x6]) (rest := []) (W1 := ((wSum cA qS nS r_2))) ⟨hx, hb, hml, hown, hts⟩ (m_X4_addUp l G cA qS nS zS r_1 x4 x6 r_2 hr_2) (cw_X4_addUp hts wi_397 ⟨Nat.le_of_ble_eq_true rfl, Nat.le_of_ble_eq_true rfl⟩) hK hP hD hS [0, 1, 2, 3] [4, 5, 6, 7] rfl rfl rfl (by decide) rfl va_Pnil dj_nil (va_recv hK.1 hP (ci := 2) (q0 := 0) rfl rfl) rfl hl.1 rfl (Nat.le_of_ble_eq_true rfl) dX4_put_92 ⟨Nat.zero_le _, Nat.zero_le _⟩ (fun H locs hP hD hS => ?_)
  cases hf
  exact W.vret hx hb hr (fun t ht hW => ⟨⟨(), rfl, trivial, toT ht hP⟩, hS.F ht⟩) hS.2.2 dX4_put_95 hlocks
def f_X4_put_73 (nS : Nat) (zS : SumS) (x6 : Int64) (v1 : Int32) (v2 : Int64) : Option (SumS) := (f_X4_addUp nS zS v1 v2 x6).bind fun r_1 => some r_1
set_option maxHeartbeats 4000000 in
set_option maxRecDepth 100000 in
theorem b_X4_put_73 {p : Program} {l : Launch} {e : Env} {s : State} {m : MethodId} {args : Array Value} {below : List Frame} {meth : Method} {c : Code} {G : va_G} {cA : Nat → ClassId} {W9 : va_W} (qS : Nat → Nat) (nS : Nat) (C0 : Amb p s m args meth c cX4_put RX4 9 none G cA (adr W9) []) {res : SumS} : ∀ (zS : SumS) (x6 : Int64) (v1 : Int32) (v2 : Int64) (H : Heap) (locs : List Loc) (ls : Array Slot), va_P G vwCl ((wSum cA qS nS zS)) H → va_D (adr W9) ((wSum cA qS nS zS)) → va_S (adr W9) s.heap H locs → lv_has ls 9 [(6, .long x6)] → f_X4_put_73 nS zS x6 v1 v2 = some res → W p l e rm_X4_put s m args below meth c H locs 0 0 (MQ below (qWv G W9 ((wSum cA qS nS res))) args s 0 0 (adr W9)) (F0 m 73 ls [.long v2, .int v1, .ref (qS 0)]) := by
  obtain ⟨hx, hb, hr, hml, hown, hts, hlocks, hK, hR, hRA⟩ := id C0
  intro zS x6 v1 v2 H locs ls hP hD hS hl hf
  unfold f_X4_put_73 at hf
  refine lv_lload hx hb dX4_put_73 (lv_at hl 0 rfl) ?_
  obtain ⟨r_1, hr_1, hf⟩ := obd hf
  refine cWvV (As := [.int v1, .long v2, .long x6]) (rest := []) (W1 := ((wSum cA qS nS r_1))) ⟨hx, hb, hml, hown, hts⟩ (m_X4_addUp l G cA qS nS zS v1 v2 x6 r_1 hr_1) (cw_X4_addUp hts wi_397 ⟨Nat.le_of_ble_eq_true rfl, Nat.le_of_ble_eq_true rfl⟩) hK hP hD hS [0, 1, 2, 3] [4, 5, 6, 7] rfl rfl rfl (by decide) rfl va_Pnil dj_nil (va_recv hK.1 hP (ci := 2) (q0 := 0) rfl rfl) rfl hl.1 rfl (Nat.le_of_ble_eq_true rfl) dX4_put_75 ⟨Nat.zero_le _, Nat.zero_le _⟩ (fun H locs hP hD hS => ?_)
  refine lv_goto (tgt := 95) hx hb dX4_put_78 (by decide) ?_
  cases hf
  exact W.vret hx hb hr (fun t ht hW => ⟨⟨(), rfl, trivial, toT ht hP⟩, hS.F ht⟩) hS.2.2 dX4_put_95 hlocks
def f_X4_put_15 (nS : Nat) (zS : SumS) (x1 : Int32) (x2 : Int32) (x3 : Int32) (x4 : Int64) (x6 : Int64) (v0 : Int32) : Option (SumS) := if ¬ x2 = 0 then if v0 = 0 then f_X4_put_81 nS zS x1 x2 x3 x4 x6 else if 0 ≤ x2 then f_X4_put_81 nS zS x1 x2 x3 x4 x6 else (f_X4_keyOf x1 (-x2) x3).bind fun r_4 => if ¬ x1 = (3 : Int32) then f_X4_put_73 nS zS x6 r_4 x4 else f_X4_put_73 nS zS x6 r_4 (-x4) else if x1 = (3 : Int32) then some zS else (f_X4_keyOf (0 : Int32) (0 : Int32) x3).bind fun r_7 => (f_X4_addUp nS zS r_7 x4 x6).bind fun r_8 => some r_8
set_option maxHeartbeats 4000000 in
set_option maxRecDepth 100000 in
theorem b_X4_put_15 {p : Program} {l : Launch} {e : Env} {s : State} {m : MethodId} {args : Array Value} {below : List Frame} {meth : Method} {c : Code} {G : va_G} {cA : Nat → ClassId} {W9 : va_W} (qS : Nat → Nat) (nS : Nat) (C0 : Amb p s m args meth c cX4_put RX4 9 none G cA (adr W9) []) {res : SumS} : ∀ (zS : SumS) (x1 : Int32) (x2 : Int32) (x3 : Int32) (x4 : Int64) (x6 : Int64) (v0 : Int32) (H : Heap) (locs : List Loc) (ls : Array Slot), va_P G vwCl ((wSum cA qS nS zS)) H → va_D (adr W9) ((wSum cA qS nS zS)) → va_S (adr W9) s.heap H locs → lv_has ls 9 [(0, .ref (qS 0)), (1, .int x1), (2, .int x2), (3, .int x3), (4, .long x4), (6, .long x6)] → f_X4_put_15 nS zS x1 x2 x3 x4 x6 v0 = some res → W p l e rm_X4_put s m args below meth c H locs 0 0 (MQ below (qWv G W9 ((wSum cA qS nS res))) args s 0 0 (adr W9)) (F0 m 15 ls [.int v0]) := by
  obtain ⟨hx, hb, hr, hml, hown, hts, hlocks, hK, hR, hRA⟩ := id C0
  intro zS x1 x2 x3 x4 x6 v0 H locs ls hP hD hS hl hf
  unfold f_X4_put_15 at hf
  refine lv_istore (lv' := [(8, .int v0), (0, .ref (qS 0)), (1, .int x1), (2, .int x2), (3, .int x3), (4, .long x4), (6, .long x6)]) hx hb dX4_put_15 hl (by decide) rfl (fun ls hl => ?_)
  refine lv_iload_n hx hb dX4_put_17 rfl (lv_at hl 3 rfl) ?_
  refine lv_if_ne (tgt := 43) hx hb dX4_put_18 (by decide) (fun c_1 => ?_) (fun c_1 => ?_)
  · rw [if_pos (c_1)] at hf
    refine lv_iload hx hb dX4_put_43 (lv_at hl 0 rfl) ?_
    refine lv_if_eq (tgt := 81) hx hb dX4_put_45 (by decide) (fun c_2 => ?_) (fun c_2 => ?_)
    · rw [if_pos (c_2)] at hf
      exact b_X4_put_81 qS nS   C0  zS x1 x2 x3 x4 x6 H locs ls hP hD hS (lv_sub hl [1, 2, 3, 4, 5, 6] rfl) hf
    · rw [if_neg (c_2)] at hf
      refine lv_iload_n hx hb dX4_put_48 rfl (lv_at hl 3 rfl) ?_
      refine lv_if_ge (tgt := 81) hx hb dX4_put_49 (by decide) (fun c_3 => ?_) (fun c_3 => ?_)
      · rw [if_pos (c_3)] at hf
        exact b_X4_put_81 qS nS   C0  zS x1 x2 x3 x4 x6 H locs ls hP hD hS (lv_sub hl [1, 2, 3, 4, 5, 6] rfl) hf
      · rw [if_neg (c_3)] at hf
        refine lv_aload_n hx hb dX4_put_52 rfl (lv_at hl 1 rfl) ?_
        refine lv_iload_n hx hb dX4_put_53 rfl (lv_at hl 2 rfl) ?_
        refine lv_iload_n hx hb dX4_put_54 rfl (lv_at hl 3 rfl) ?_
        refine lv_ineg hx hb dX4_put_55 ?_
        refine lv_iload_n hx hb dX4_put_56 rfl (lv_at hl 4 rfl) ?_
        obtain ⟨r_4, hr_4, hf⟩ := obd hf
        refine cRiS (As := [.int x1, .int (-x2), .int x3]) (rest := [.ref (qS 0)]) ⟨hx, hb, hml, hown, hts⟩ (m_X4_keyOf l G cA x1 (-x2) x3 r_4 hr_4) (cw_X4_keyOf hts wi_394 ⟨Nat.le_of_ble_eq_true rfl, Nat.le_of_ble_eq_true rfl⟩) hK va_Pnil rfl hl.1 rfl (Nat.le_of_ble_eq_true rfl) dX4_put_57 ⟨Nat.zero_le _, Nat.zero_le _⟩ ?_
        refine lv_iload_n hx hb dX4_put_60 rfl (lv_at hl 2 rfl) ?_
        refine lv_iconst (v := 3) hx hb dX4_put_61 (by decide) ?_
        refine lv_icmp_ne (tgt := 71) hx hb dX4_put_62 (by decide) (fun c_5 => ?_) (fun c_5 => ?_)
        · rw [if_pos (c_5)] at hf
          refine lv_lload hx hb dX4_put_71 (lv_at hl 5 rfl) ?_
          exact b_X4_put_73 qS nS   C0  zS x6 r_4 x4 H locs ls hP hD hS (lv_sub hl [6] rfl) hf
        · rw [if_neg (not_not_intro c_5)] at hf
          refine lv_lload hx hb dX4_put_65 (lv_at hl 5 rfl) ?_
          refine lv_lneg hx hb dX4_put_67 ?_
          refine lv_goto (tgt := 73) hx hb dX4_put_68 (by decide) ?_
          exact b_X4_put_73 qS nS   C0  zS x6 r_4 (-x4) H locs ls hP hD hS (lv_sub hl [6] rfl) hf
  · rw [if_neg (not_not_intro c_1)] at hf
    refine lv_iload_n hx hb dX4_put_21 rfl (lv_at hl 2 rfl) ?_
    refine lv_iconst (v := 3) hx hb dX4_put_22 (by decide) ?_
    refine lv_icmp_eq (tgt := 95) hx hb dX4_put_23 (by decide) (fun c_6 => ?_) (fun c_6 => ?_)
    · rw [if_pos (c_6)] at hf
      cases hf
      exact W.vret hx hb hr (fun t ht hW => ⟨⟨(), rfl, trivial, toT ht hP⟩, hS.F ht⟩) hS.2.2 dX4_put_95 hlocks
    · rw [if_neg (c_6)] at hf
      refine lv_aload_n hx hb dX4_put_26 rfl (lv_at hl 1 rfl) ?_
      refine lv_iconst (v := 0) hx hb dX4_put_27 (by decide) ?_
      refine lv_iconst (v := 0) hx hb dX4_put_28 (by decide) ?_
      refine lv_iload_n hx hb dX4_put_29 rfl (lv_at hl 4 rfl) ?_
      obtain ⟨r_7, hr_7, hf⟩ := obd hf
      refine cRiS (As := [.int (0 : Int32), .int (0 : Int32), .int x3]) (rest := [.ref (qS 0)]) ⟨hx, hb, hml, hown, hts⟩ (m_X4_keyOf l G cA (0 : Int32) (0 : Int32) x3 r_7 hr_7) (cw_X4_keyOf hts wi_394 ⟨Nat.le_of_ble_eq_true rfl, Nat.le_of_ble_eq_true rfl⟩) hK va_Pnil rfl hl.1 rfl (Nat.le_of_ble_eq_true rfl) dX4_put_30 ⟨Nat.zero_le _, Nat.zero_le _⟩ ?_
      refine lv_lload hx hb dX4_put_33 (lv_at hl 5 rfl) ?_
      refine lv_lload hx hb dX4_put_35 (lv_at hl 6 rfl) ?_
      obtain ⟨r_8, hr_8, hf⟩ := obd hf
      refine cWvV (As := [.int r_7, .long x4, .long x6]) (rest := []) (W1 := ((wSum cA qS nS r_8))) ⟨hx, hb, hml, hown, hts⟩ (m_X4_addUp l G cA qS nS zS r_7 x4 x6 r_8 hr_8) (cw_X4_addUp hts wi_397 ⟨Nat.le_of_ble_eq_true rfl, Nat.le_of_ble_eq_true rfl⟩) hK hP hD hS [0, 1, 2, 3] [4, 5, 6, 7] rfl rfl rfl (by decide) rfl va_Pnil dj_nil (va_recv hK.1 hP (ci := 2) (q0 := 0) rfl rfl) rfl hl.1 rfl (Nat.le_of_ble_eq_true rfl) dX4_put_37 ⟨Nat.zero_le _, Nat.zero_le _⟩ (fun H locs hP hD hS => ?_)
      refine lv_goto (tgt := 95) hx hb dX4_put_40 (by decide) ?_
      cases hf
      exact W.vret hx hb hr (fun t ht hW => ⟨⟨(), rfl, trivial, toT ht hP⟩, hS.F ht⟩) hS.2.2 dX4_put_95 hlocks
def f_X4_put_10 (nS : Nat) (zS : SumS) (x1 : Int32) (x2 : Int32) (x3 : Int32) (x4 : Int64) (x6 : Int64) : Option (SumS) := f_X4_put_15 nS zS x1 x2 x3 x4 x6 (1 : Int32)
set_option maxHeartbeats 4000000 in
set_option maxRecDepth 100000 in
theorem b_X4_put_10 {p : Program} {l : Launch} {e : Env} {s : State} {m : MethodId} {args : Array Value} {below : List Frame} {meth : Method} {c : Code} {G : va_G} {cA : Nat → ClassId} {W9 : va_W} (qS : Nat → Nat) (nS : Nat) (C0 : Amb p s m args meth c cX4_put RX4 9 none G cA (adr W9) []) {res : SumS} : ∀ (zS : SumS) (x1 : Int32) (x2 : Int32) (x3 : Int32) (x4 : Int64) (x6 : Int64) (H : Heap) (locs : List Loc) (ls : Array Slot), va_P G vwCl ((wSum cA qS nS zS)) H → va_D (adr W9) ((wSum cA qS nS zS)) → va_S (adr W9) s.heap H locs → lv_has ls 9 [(0, .ref (qS 0)), (1, .int x1), (2, .int x2), (3, .int x3), (4, .long x4), (6, .long x6)] → f_X4_put_10 nS zS x1 x2 x3 x4 x6 = some res → W p l e rm_X4_put s m args below meth c H locs 0 0 (MQ below (qWv G W9 ((wSum cA qS nS res))) args s 0 0 (adr W9)) (F0 m 10 ls []) := by
  obtain ⟨hx, hb, hr, hml, hown, hts, hlocks, hK, hR, hRA⟩ := id C0
  intro zS x1 x2 x3 x4 x6 H locs ls hP hD hS hl hf
  unfold f_X4_put_10 at hf
  refine lv_iconst (v := 1) hx hb dX4_put_10 (by decide) ?_
  refine lv_goto (tgt := 15) hx hb dX4_put_11 (by decide) ?_
  exact b_X4_put_15 qS nS   C0  zS x1 x2 x3 x4 x6 (1 : Int32) H locs ls hP hD hS (lv_sub hl [0, 1, 2, 3, 4, 5] rfl) hf
def f_X4_put (nS : Nat) (zS : SumS) (a1 : Int32) (a2 : Int32) (a3 : Int32) (a4 : Int64) (a6 : Int64) : Option (SumS) := if a1 = (3 : Int32) then f_X4_put_10 nS zS a1 a2 a3 a4 a6 else if ¬ a1 = (4 : Int32) then f_X4_put_15 nS zS a1 a2 a3 a4 a6 (0 : Int32) else f_X4_put_10 nS zS a1 a2 a3 a4 a6
set_option maxHeartbeats 4000000 in
set_option maxRecDepth 100000 in
theorem b_X4_put_0 {p : Program} {l : Launch} {e : Env} {s : State} {m : MethodId} {args : Array Value} {below : List Frame} {meth : Method} {c : Code} {G : va_G} {cA : Nat → ClassId} {W9 : va_W} (qS : Nat → Nat) (nS : Nat) (C0 : Amb p s m args meth c cX4_put RX4 9 none G cA (adr W9) []) {res : SumS} : ∀ (zS : SumS) (a1 : Int32) (a2 : Int32) (a3 : Int32) (a4 : Int64) (a6 : Int64) (H : Heap) (locs : List Loc) (ls : Array Slot), va_P G vwCl ((wSum cA qS nS zS)) H → va_D (adr W9) ((wSum cA qS nS zS)) → va_S (adr W9) s.heap H locs → lv_has ls 9 [(0, .ref (qS 0)), (1, .int a1), (2, .int a2), (3, .int a3), (4, .long a4), (6, .long a6)] → f_X4_put nS zS a1 a2 a3 a4 a6 = some res → W p l e rm_X4_put s m args below meth c H locs 0 0 (MQ below (qWv G W9 ((wSum cA qS nS res))) args s 0 0 (adr W9)) (F0 m 0 ls []) := by
  obtain ⟨hx, hb, hr, hml, hown, hts, hlocks, hK, hR, hRA⟩ := id C0
  intro zS a1 a2 a3 a4 a6 H locs ls hP hD hS hl hf
  unfold f_X4_put at hf
  refine lv_iload_n hx hb dX4_put_0 rfl (lv_at hl 1 rfl) ?_
  refine lv_iconst (v := 3) hx hb dX4_put_1 (by decide) ?_
  refine lv_icmp_eq (tgt := 10) hx hb dX4_put_2 (by decide) (fun c_1 => ?_) (fun c_1 => ?_)
  · rw [if_pos (c_1)] at hf
    exact b_X4_put_10 qS nS   C0  zS a1 a2 a3 a4 a6 H locs ls hP hD hS (lv_sub hl [0, 1, 2, 3, 4, 5] rfl) hf
  · rw [if_neg (c_1)] at hf
    refine lv_iload_n hx hb dX4_put_5 rfl (lv_at hl 1 rfl) ?_
    refine lv_iconst (v := 4) hx hb dX4_put_6 (by decide) ?_
    refine lv_icmp_ne (tgt := 14) hx hb dX4_put_7 (by decide) (fun c_2 => ?_) (fun c_2 => ?_)
    · rw [if_pos (c_2)] at hf
      refine lv_iconst (v := 0) hx hb dX4_put_14 (by decide) ?_
      exact b_X4_put_15 qS nS   C0  zS a1 a2 a3 a4 a6 (0 : Int32) H locs ls hP hD hS (lv_sub hl [0, 1, 2, 3, 4, 5] rfl) hf
    · rw [if_neg (not_not_intro c_2)] at hf
      exact b_X4_put_10 qS nS   C0  zS a1 a2 a3 a4 a6 H locs ls hP hD hS (lv_sub hl [0, 1, 2, 3, 4, 5] rfl) hf

set_option maxRecDepth 100000 in
theorem m_X4_put (l : Launch) (G : va_G) (cA : Nat → ClassId) (qS : Nat → Nat) (nS : Nat) (zS : SumS) (a1 : Int32) (a2 : Int32) (a3 : Int32) (a4 : Int64) (a6 : Int64) (res : SumS) (hf : f_X4_put nS zS a1 a2 a3 a4 a6 = some res) : MWv l yX4_put (.code yX4_put cX4_put 9 none :: wd) rm_X4_put G cA [.ref (qS 0), .int a1, .int a2, .int a3, .long a4, .long a6] ((wSum cA qS nS zS)) [] ((wSum cA qS nS res)) := by
  refine Met.ofW (cc := cX4_put) (maxL := 9) (ret := none) (by decide) rfl ?_
  intro p e s m args below meth c s₁ B hml hv
  obtain ⟨rfl, hK, hP, hD0, hR, hRA⟩ := hv
  have C0 : Amb p s m ([.ref (qS 0), .int a1, .int a2, .int a3, .long a4, .long a6] : List Value).toArray meth c cX4_put RX4 9 none G cA (adr ((wSum cA qS nS zS))) [] := ⟨B.exec, B.bytes, B.returns, hml, findClass_of_methodNamed B.named, fun w h => atoms_spec (ws := (.code yX4_put cX4_put 9 none :: wd)) B.pre w (List.mem_cons_of_mem _ h), B.notSynchronized, hK, hR, hRA⟩
  have hl := lv_entry ([.ref (qS 0), .int a1, .int a2, .int a3, .long a4, .long a6]) (n := 9) (Nat.le_of_ble_eq_true rfl)
  rw [lg_entry_eq]
  generalize (lg_sl ([.ref (qS 0), .int a1, .int a2, .int a3, .long a4, .long a6]) ++ List.replicate (9 - (lg_sl ([.ref (qS 0), .int a1, .int a2, .int a3, .long a4, .long a6])).length) Slot.unset).toArray = ls at hl ⊢
  have hl : lv_has ls 9 [(0, .ref (qS 0)), (1, .int a1), (2, .int a2), (3, .int a3), (4, .long a4), (6, .long a6)] := hl
  exact b_X4_put_0 (W9 := ((wSum cA qS nS zS))) qS nS   C0 zS a1 a2 a3 a4 a6 s.heap [] ls hP (adr.self hD0) va_S.rf hl hf
theorem cw_X4_put {R : Room} {s : State} {args : Array Value} {own : String} {index : Nat} (ht : ∀ w ∈ wd, w.before args s = true) (hlink : Cond.methodLink own index yX4_put ∈ wd) (hR : rm_X4_put.frames + 1 ≤ R.frames ∧ 8 + (9 + 11) + rm_X4_put.locals ≤ R.locals) : CallW R s args own RX4 index yX4_put cX4_put 9 none (.code yX4_put cX4_put 9 none :: wd) rm_X4_put 0 0 5 := cwV9 5 ht wi_393 wi_391 wi_392 wi_56 hlink (by decide +kernel) rfl rfl hR
def rm_X4_putAll : Room := { frames := 3, cells := 0, slots := 0, locals := 90 }
def f_X4_putAll_3 (nS : Nat) (nT : Nat) (zT : SumS) : Nat → SumS → Int64 → Int64 → Int32 → Option (SumS)
  | 0, _, _, _, _ => none
  | fu + 1, zS, x2, x4, x6 => if (gS_size zT) ≤ x6 then some zS else if inb x6 nT = true then if inb x6 nT = true then if inb x6 nT = true then (f_X4_addUp nS zS (gS_keys zT x6.toNatClampNeg) ((gS_tops zT x6.toNatClampNeg) * x2) ((gS_bots zT x6.toNatClampNeg) * x4)).bind fun r_5 => f_X4_putAll_3 nS nT zT fu r_5 x2 x4 (x6 + 1) else none else none else none
set_option maxHeartbeats 4000000 in
set_option maxRecDepth 100000 in
theorem b_X4_putAll_3 {p : Program} {l : Launch} {e : Env} {s : State} {m : MethodId} {args : Array Value} {below : List Frame} {meth : Method} {c : Code} {G : va_G} {cA : Nat → ClassId} {W9 : va_W} (qS : Nat → Nat) (nS : Nat) (qT : Nat → Nat) (nT : Nat) (zT : SumS) (C0 : Amb p s m args meth c cX4_putAll RX4 7 none G cA (adr W9) ((wSum cA qT nT zT))) {res : SumS} : ∀ (fu : Nat) (zS : SumS) (x2 : Int64) (x4 : Int64) (x6 : Int32) (H : Heap) (locs : List Loc) (ls : Array Slot), va_P G vwCl ((wSum cA qS nS zS)) H → va_D (adr W9) ((wSum cA qS nS zS)) → va_S (adr W9) s.heap H locs → lv_has ls 7 [(0, .ref (qS 0)), (1, .ref (qT 0)), (2, .long x2), (4, .long x4), (6, .int x6)] → f_X4_putAll_3 nS nT zT fu zS x2 x4 x6 = some res → W p l e rm_X4_putAll s m args below meth c H locs 0 0 (MQ below (qWv G W9 ((wSum cA qS nS res))) args s 0 0 (adr W9)) (F0 m 3 ls []) := by
  obtain ⟨hx, hb, hr, hml, hown, hts, hlocks, hK, hR, hRA⟩ := id C0
  intro fu
  induction fu with
  | zero =>
    intro zS x2 x4 x6 H locs ls hP hD hS hl hf
    rw [f_X4_putAll_3] at hf
    cases hf
  | succ fu ih =>
    intro zS x2 x4 x6 H locs ls hP hD hS hl hf
    rw [f_X4_putAll_3] at hf
    refine lv_iload hx hb dX4_putAll_3 (lv_at hl 4 rfl) ?_
    refine lv_aload_n hx hb dX4_putAll_5 rfl (lv_at hl 1 rfl) ?_
    refine va_get (D := G) (ci := 2) (v := .int (gS_size zT)) (C := RX4) (T := TX4) (N := 6) hx hb hts fin_X4 hown hK.1 (roP hR hRA hS) 0 rfl rfl 4 (by decide) (hts _ wi_88) (fun _ h9 => h9) rfl dX4_putAll_6 ?_
    refine lv_icmp_ge (tgt := 48) hx hb dX4_putAll_9 (by decide) (fun c_1 => ?_) (fun c_1 => ?_)
    · rw [if_pos (c_1)] at hf
      cases hf
      exact W.vret hx hb hr (fun t ht hW => ⟨⟨(), rfl, trivial, toT ht hP⟩, hS.F ht⟩) hS.2.2 dX4_putAll_48 hlocks
    · rw [if_neg (c_1)] at hf
      refine lv_aload_n hx hb dX4_putAll_12 rfl (lv_at hl 0 rfl) ?_
      refine lv_aload_n hx hb dX4_putAll_13 rfl (lv_at hl 1 rfl) ?_
      refine va_get (D := G) (ci := 2) (v := .ref (qT 1)) (C := RX4) (T := TX4) (N := 6) hx hb hts fin_X4 hown hK.1 (roP hR hRA hS) 0 rfl rfl 1 (by decide) (hts _ wi_85) (fun _ h9 => h9) rfl dX4_putAll_14 ?_
      refine lv_iload hx hb dX4_putAll_17 (lv_at hl 4 rfl) ?_
      obtain ⟨hi_2, hf⟩ := oif hf
      refine va_iald hx hb hK.1 (roP hR hRA hS) 1 0 rfl rfl (inb_in hi_2) dX4_putAll_19 ?_
      refine lv_aload_n hx hb dX4_putAll_20 rfl (lv_at hl 1 rfl) ?_
      refine va_get (D := G) (ci := 2) (v := .ref (qT 2)) (C := RX4) (T := TX4) (N := 6) hx hb hts fin_X4 hown hK.1 (roP hR hRA hS) 0 rfl rfl 2 (by decide) (hts _ wi_86) (fun _ h9 => h9) rfl dX4_putAll_21 ?_
      refine lv_iload hx hb dX4_putAll_24 (lv_at hl 4 rfl) ?_
      obtain ⟨hi_3, hf⟩ := oif hf
      refine va_lald hx hb hK.1 (roP hR hRA hS) 2 1 rfl rfl (inb_in hi_3) dX4_putAll_26 ?_
      refine lv_lload_n hx hb dX4_putAll_27 rfl (lv_at hl 2 rfl) ?_
      refine lv_lmul hx hb dX4_putAll_28 ?_
      refine lv_aload_n hx hb dX4_putAll_29 rfl (lv_at hl 1 rfl) ?_
      refine va_get (D := G) (ci := 2) (v := .ref (qT 3)) (C := RX4) (T := TX4) (N := 6) hx hb hts fin_X4 hown hK.1 (roP hR hRA hS) 0 rfl rfl 3 (by decide) (hts _ wi_87) (fun _ h9 => h9) rfl dX4_putAll_30 ?_
      refine lv_iload hx hb dX4_putAll_33 (lv_at hl 4 rfl) ?_
      obtain ⟨hi_4, hf⟩ := oif hf
      refine va_lald hx hb hK.1 (roP hR hRA hS) 3 1 rfl rfl (inb_in hi_4) dX4_putAll_35 ?_
      refine lv_lload hx hb dX4_putAll_36 (lv_at hl 3 rfl) ?_
      refine lv_lmul hx hb dX4_putAll_38 ?_
      obtain ⟨r_5, hr_5, hf⟩ := obd hf
      refine cWvV (As := [.int (gS_keys zT x6.toNatClampNeg), .long ((gS_tops zT x6.toNatClampNeg) * x2), .long ((gS_bots zT x6.toNatClampNeg) * x4)]) (rest := []) (W1 := ((wSum cA qS nS r_5))) ⟨hx, hb, hml, hown, hts⟩ (m_X4_addUp l G cA qS nS zS (gS_keys zT x6.toNatClampNeg) ((gS_tops zT x6.toNatClampNeg) * x2) ((gS_bots zT x6.toNatClampNeg) * x4) r_5 hr_5) (cw_X4_addUp hts wi_397 ⟨Nat.le_of_ble_eq_true rfl, Nat.le_of_ble_eq_true rfl⟩) hK hP hD hS [0, 1, 2, 3] [4, 5, 6, 7] rfl rfl rfl (by decide) rfl va_Pnil dj_nil (va_recv hK.1 hP (ci := 2) (q0 := 0) rfl rfl) rfl hl.1 rfl (Nat.le_of_ble_eq_true rfl) dX4_putAll_39 ⟨Nat.zero_le _, Nat.zero_le _⟩ (fun H locs hP hD hS => ?_)
      refine lv_iinc (v := (x6 + 1)) (lv' := [(6, .int (x6 + 1)), (0, .ref (qS 0)), (1, .ref (qT 0)), (2, .long x2), (4, .long x4)]) hx hb dX4_putAll_42 hl (k := 4) rfl rfl (by decide) rfl (fun ls hl => ?_)
      refine lv_goto (tgt := 3) hx hb dX4_putAll_45 (by decide) ?_
      exact ih r_5 x2 x4 (x6 + 1) H locs ls hP hD hS (lv_sub hl [1, 2, 3, 4, 0] rfl) hf
def f_X4_putAll (nS : Nat) (nT : Nat) (zT : SumS) (zS : SumS) (a2 : Int64) (a4 : Int64) : Option (SumS) := f_X4_putAll_3 nS nT zT fuel zS a2 a4 (0 : Int32)
set_option maxHeartbeats 4000000 in
set_option maxRecDepth 100000 in
theorem b_X4_putAll_0 {p : Program} {l : Launch} {e : Env} {s : State} {m : MethodId} {args : Array Value} {below : List Frame} {meth : Method} {c : Code} {G : va_G} {cA : Nat → ClassId} {W9 : va_W} (qS : Nat → Nat) (nS : Nat) (qT : Nat → Nat) (nT : Nat) (zT : SumS) (C0 : Amb p s m args meth c cX4_putAll RX4 7 none G cA (adr W9) ((wSum cA qT nT zT))) {res : SumS} : ∀ (zS : SumS) (a2 : Int64) (a4 : Int64) (H : Heap) (locs : List Loc) (ls : Array Slot), va_P G vwCl ((wSum cA qS nS zS)) H → va_D (adr W9) ((wSum cA qS nS zS)) → va_S (adr W9) s.heap H locs → lv_has ls 7 [(0, .ref (qS 0)), (1, .ref (qT 0)), (2, .long a2), (4, .long a4)] → f_X4_putAll nS nT zT zS a2 a4 = some res → W p l e rm_X4_putAll s m args below meth c H locs 0 0 (MQ below (qWv G W9 ((wSum cA qS nS res))) args s 0 0 (adr W9)) (F0 m 0 ls []) := by
  obtain ⟨hx, hb, hr, hml, hown, hts, hlocks, hK, hR, hRA⟩ := id C0
  intro zS a2 a4 H locs ls hP hD hS hl hf
  unfold f_X4_putAll at hf
  refine lv_iconst (v := 0) hx hb dX4_putAll_0 (by decide) ?_
  refine lv_istore (lv' := [(6, .int (0 : Int32)), (0, .ref (qS 0)), (1, .ref (qT 0)), (2, .long a2), (4, .long a4)]) hx hb dX4_putAll_1 hl (by decide) rfl (fun ls hl => ?_)
  exact b_X4_putAll_3 qS nS qT nT  zT C0  fuel zS a2 a4 (0 : Int32) H locs ls hP hD hS (lv_sub hl [1, 2, 3, 4, 0] rfl) hf

set_option maxRecDepth 100000 in
theorem m_X4_putAll (l : Launch) (G : va_G) (cA : Nat → ClassId) (qS : Nat → Nat) (nS : Nat) (qT : Nat → Nat) (nT : Nat) (zT : SumS) (zS : SumS) (a2 : Int64) (a4 : Int64) (res : SumS) (hf : f_X4_putAll nS nT zT zS a2 a4 = some res) : MWv l yX4_putAll (.code yX4_putAll cX4_putAll 7 none :: wd) rm_X4_putAll G cA [.ref (qS 0), .ref (qT 0), .long a2, .long a4] ((wSum cA qS nS zS)) ((wSum cA qT nT zT)) ((wSum cA qS nS res)) := by
  refine Met.ofW (cc := cX4_putAll) (maxL := 7) (ret := none) (by decide) rfl ?_
  intro p e s m args below meth c s₁ B hml hv
  obtain ⟨rfl, hK, hP, hD0, hR, hRA⟩ := hv
  have C0 : Amb p s m ([.ref (qS 0), .ref (qT 0), .long a2, .long a4] : List Value).toArray meth c cX4_putAll RX4 7 none G cA (adr ((wSum cA qS nS zS))) ((wSum cA qT nT zT)) := ⟨B.exec, B.bytes, B.returns, hml, findClass_of_methodNamed B.named, fun w h => atoms_spec (ws := (.code yX4_putAll cX4_putAll 7 none :: wd)) B.pre w (List.mem_cons_of_mem _ h), B.notSynchronized, hK, hR, hRA⟩
  have hl := lv_entry ([.ref (qS 0), .ref (qT 0), .long a2, .long a4]) (n := 7) (Nat.le_of_ble_eq_true rfl)
  rw [lg_entry_eq]
  generalize (lg_sl ([.ref (qS 0), .ref (qT 0), .long a2, .long a4]) ++ List.replicate (7 - (lg_sl ([.ref (qS 0), .ref (qT 0), .long a2, .long a4])).length) Slot.unset).toArray = ls at hl ⊢
  have hl : lv_has ls 7 [(0, .ref (qS 0)), (1, .ref (qT 0)), (2, .long a2), (4, .long a4)] := hl
  exact b_X4_putAll_0 (W9 := ((wSum cA qS nS zS))) qS nS qT nT  zT C0 zS a2 a4 s.heap [] ls hP (adr.self hD0) va_S.rf hl hf
theorem cw_X4_putAll {R : Room} {s : State} {args : Array Value} {own : String} {index : Nat} (ht : ∀ w ∈ wd, w.before args s = true) (hlink : Cond.methodLink own index yX4_putAll ∈ wd) (hR : rm_X4_putAll.frames + 1 ≤ R.frames ∧ 8 + (7 + 11) + rm_X4_putAll.locals ≤ R.locals) : CallW R s args own RX4 index yX4_putAll cX4_putAll 7 none (.code yX4_putAll cX4_putAll 7 none :: wd) rm_X4_putAll 0 0 3 := cwV9 3 ht wi_549 wi_547 wi_548 wi_56 hlink (by decide +kernel) rfl rfl hR
def rm_X4_become : Room := { frames := 1, cells := 0, slots := 0, locals := 30 }
def f_X4_become_25 (nS : Nat) (nT : Nat) (zT : SumS) : Nat → SumS → Int32 → Option (SumS)
  | 0, _, _ => none
  | fu + 1, zS, x2 => if (gS_size zS) ≤ x2 then some zS else if inb x2 nT = true then if inb x2 nS = true then if inb x2 nT = true then if inb x2 nS = true then if inb x2 nT = true then if inb x2 nS = true then f_X4_become_25 nS nT zT fu (uS_bots (uS_tops (uS_keys zS (upd (gS_keys zS) x2.toNatClampNeg (gS_keys zT x2.toNatClampNeg))) (vp_updL (gS_tops (uS_keys zS (upd (gS_keys zS) x2.toNatClampNeg (gS_keys zT x2.toNatClampNeg)))) x2.toNatClampNeg (gS_tops zT x2.toNatClampNeg))) (vp_updL (gS_bots (uS_tops (uS_keys zS (upd (gS_keys zS) x2.toNatClampNeg (gS_keys zT x2.toNatClampNeg))) (vp_updL (gS_tops (uS_keys zS (upd (gS_keys zS) x2.toNatClampNeg (gS_keys zT x2.toNatClampNeg)))) x2.toNatClampNeg (gS_tops zT x2.toNatClampNeg)))) x2.toNatClampNeg (gS_bots zT x2.toNatClampNeg))) (x2 + 1) else none else none else none else none else none else none
set_option maxHeartbeats 4000000 in
set_option maxRecDepth 100000 in
theorem b_X4_become_25 {p : Program} {l : Launch} {e : Env} {s : State} {m : MethodId} {args : Array Value} {below : List Frame} {meth : Method} {c : Code} {G : va_G} {cA : Nat → ClassId} {W9 : va_W} (qS : Nat → Nat) (nS : Nat) (qT : Nat → Nat) (nT : Nat) (zT : SumS) (C0 : Amb p s m args meth c cX4_become RX4 3 none G cA (adr W9) ((wSum cA qT nT zT))) {res : SumS} : ∀ (fu : Nat) (zS : SumS) (x2 : Int32) (H : Heap) (locs : List Loc) (ls : Array Slot), va_P G vwCl ((wSum cA qS nS zS)) H → va_D (adr W9) ((wSum cA qS nS zS)) → va_S (adr W9) s.heap H locs → lv_has ls 3 [(0, .ref (qS 0)), (1, .ref (qT 0)), (2, .int x2)] → f_X4_become_25 nS nT zT fu zS x2 = some res → W p l e rm_X4_become s m args below meth c H locs 0 0 (MQ below (qWv G W9 ((wSum cA qS nS res))) args s 0 0 (adr W9)) (F0 m 25 ls []) := by
  obtain ⟨hx, hb, hr, hml, hown, hts, hlocks, hK, hR, hRA⟩ := id C0
  intro fu
  induction fu with
  | zero =>
    intro zS x2 H locs ls hP hD hS hl hf
    rw [f_X4_become_25] at hf
    cases hf
  | succ fu ih =>
    intro zS x2 H locs ls hP hD hS hl hf
    rw [f_X4_become_25] at hf
    refine lv_iload_n hx hb dX4_become_25 rfl (lv_at hl 2 rfl) ?_
    refine lv_aload_n hx hb dX4_become_26 rfl (lv_at hl 0 rfl) ?_
    refine va_get (D := G) (ci := 2) (v := .int (gS_size zS)) (C := RX4) (T := TX4) (N := 6) hx hb hts fin_X4 hown hK.1 hP 0 rfl rfl 4 (by decide) (hts _ wi_88) (fun _ h9 => h9) rfl dX4_become_27 ?_
    refine lv_icmp_ge (tgt := 75) hx hb dX4_become_30 (by decide) (fun c_1 => ?_) (fun c_1 => ?_)
    · rw [if_pos (c_1)] at hf
      cases hf
      exact W.vret hx hb hr (fun t ht hW => ⟨⟨(), rfl, trivial, toT ht hP⟩, hS.F ht⟩) hS.2.2 dX4_become_75 hlocks
    · rw [if_neg (c_1)] at hf
      refine lv_aload_n hx hb dX4_become_33 rfl (lv_at hl 0 rfl) ?_
      refine va_get (D := G) (ci := 2) (v := .ref (qS 1)) (C := RX4) (T := TX4) (N := 6) hx hb hts fin_X4 hown hK.1 hP 0 rfl rfl 1 (by decide) (hts _ wi_85) (fun _ h9 => h9) rfl dX4_become_34 ?_
      refine lv_iload_n hx hb dX4_become_37 rfl (lv_at hl 2 rfl) ?_
      refine lv_aload_n hx hb dX4_become_38 rfl (lv_at hl 1 rfl) ?_
      refine va_get (D := G) (ci := 2) (v := .ref (qT 1)) (C := RX4) (T := TX4) (N := 6) hx hb hts fin_X4 hown hK.1 (roP hR hRA hS) 0 rfl rfl 1 (by decide) (hts _ wi_85) (fun _ h9 => h9) rfl dX4_become_39 ?_
      refine lv_iload_n hx hb dX4_become_42 rfl (lv_at hl 2 rfl) ?_
      obtain ⟨hi_2, hf⟩ := oif hf
      refine va_iald hx hb hK.1 (roP hR hRA hS) 1 0 rfl rfl (inb_in hi_2) dX4_become_43 ?_
      obtain ⟨hi_3, hf⟩ := oif hf
      refine va_iast hx hb hK.1 hP hD hS 1 0 rfl rfl (inb_in hi_3) dX4_become_44 (fun H locs hP hD hS => ?_)
      have hP := sS_keys_P hP
      have hD := sS_keys_D hD
      refine lv_aload_n hx hb dX4_become_45 rfl (lv_at hl 0 rfl) ?_
      refine va_get (D := G) (ci := 2) (v := .ref (qS 2)) (C := RX4) (T := TX4) (N := 6) hx hb hts fin_X4 hown hK.1 hP 0 rfl rfl 2 (by decide) (hts _ wi_86) (fun _ h9 => h9) rfl dX4_become_46 ?_
      refine lv_iload_n hx hb dX4_become_49 rfl (lv_at hl 2 rfl) ?_
      refine lv_aload_n hx hb dX4_become_50 rfl (lv_at hl 1 rfl) ?_
      refine va_get (D := G) (ci := 2) (v := .ref (qT 2)) (C := RX4) (T := TX4) (N := 6) hx hb hts fin_X4 hown hK.1 (roP hR hRA hS) 0 rfl rfl 2 (by decide) (hts _ wi_86) (fun _ h9 => h9) rfl dX4_become_51 ?_
      refine lv_iload_n hx hb dX4_become_54 rfl (lv_at hl 2 rfl) ?_
      obtain ⟨hi_4, hf⟩ := oif hf
      refine va_lald hx hb hK.1 (roP hR hRA hS) 2 1 rfl rfl (inb_in hi_4) dX4_become_55 ?_
      obtain ⟨hi_5, hf⟩ := oif hf
      refine va_last hx hb hK.1 hP hD hS 2 1 rfl rfl (inb_in hi_5) dX4_become_56 (fun H locs hP hD hS => ?_)
      have hP := sS_tops_P hP
      have hD := sS_tops_D hD
      refine lv_aload_n hx hb dX4_become_57 rfl (lv_at hl 0 rfl) ?_
      refine va_get (D := G) (ci := 2) (v := .ref (qS 3)) (C := RX4) (T := TX4) (N := 6) hx hb hts fin_X4 hown hK.1 hP 0 rfl rfl 3 (by decide) (hts _ wi_87) (fun _ h9 => h9) rfl dX4_become_58 ?_
      refine lv_iload_n hx hb dX4_become_61 rfl (lv_at hl 2 rfl) ?_
      refine lv_aload_n hx hb dX4_become_62 rfl (lv_at hl 1 rfl) ?_
      refine va_get (D := G) (ci := 2) (v := .ref (qT 3)) (C := RX4) (T := TX4) (N := 6) hx hb hts fin_X4 hown hK.1 (roP hR hRA hS) 0 rfl rfl 3 (by decide) (hts _ wi_87) (fun _ h9 => h9) rfl dX4_become_63 ?_
      refine lv_iload_n hx hb dX4_become_66 rfl (lv_at hl 2 rfl) ?_
      obtain ⟨hi_6, hf⟩ := oif hf
      refine va_lald hx hb hK.1 (roP hR hRA hS) 3 1 rfl rfl (inb_in hi_6) dX4_become_67 ?_
      obtain ⟨hi_7, hf⟩ := oif hf
      refine va_last hx hb hK.1 hP hD hS 3 1 rfl rfl (inb_in hi_7) dX4_become_68 (fun H locs hP hD hS => ?_)
      have hP := sS_bots_P hP
      have hD := sS_bots_D hD
      refine lv_iinc (v := (x2 + 1)) (lv' := [(2, .int (x2 + 1)), (0, .ref (qS 0)), (1, .ref (qT 0))]) hx hb dX4_become_69 hl (k := 2) rfl rfl (by decide) rfl (fun ls hl => ?_)
      refine lv_goto (tgt := 25) hx hb dX4_become_72 (by decide) ?_
      exact ih (uS_bots (uS_tops (uS_keys zS (upd (gS_keys zS) x2.toNatClampNeg (gS_keys zT x2.toNatClampNeg))) (vp_updL (gS_tops (uS_keys zS (upd (gS_keys zS) x2.toNatClampNeg (gS_keys zT x2.toNatClampNeg)))) x2.toNatClampNeg (gS_tops zT x2.toNatClampNeg))) (vp_updL (gS_bots (uS_tops (uS_keys zS (upd (gS_keys zS) x2.toNatClampNeg (gS_keys zT x2.toNatClampNeg))) (vp_updL (gS_tops (uS_keys zS (upd (gS_keys zS) x2.toNatClampNeg (gS_keys zT x2.toNatClampNeg)))) x2.toNatClampNeg (gS_tops zT x2.toNatClampNeg)))) x2.toNatClampNeg (gS_bots zT x2.toNatClampNeg))) (x2 + 1) H locs ls hP hD hS (lv_sub hl [1, 2, 0] rfl) hf
def f_X4_become (nS : Nat) (nT : Nat) (zT : SumS) (zS : SumS) : Option (SumS) := if zb (gS_ov zT) = true then f_X4_become_25 nS nT zT fuel (uS_ov (uS_size zS (mmin32 (gS_size zT) (nI nS))) (gS_ov zT)) (0 : Int32) else none
set_option maxHeartbeats 4000000 in
set_option maxRecDepth 100000 in
theorem b_X4_become_0 {p : Program} {l : Launch} {e : Env} {s : State} {m : MethodId} {args : Array Value} {below : List Frame} {meth : Method} {c : Code} {G : va_G} {cA : Nat → ClassId} {W9 : va_W} (qS : Nat → Nat) (nS : Nat) (qT : Nat → Nat) (nT : Nat) (zT : SumS) (C0 : Amb p s m args meth c cX4_become RX4 3 none G cA (adr W9) ((wSum cA qT nT zT))) {res : SumS} : ∀ (zS : SumS) (H : Heap) (locs : List Loc) (ls : Array Slot), va_P G vwCl ((wSum cA qS nS zS)) H → va_D (adr W9) ((wSum cA qS nS zS)) → va_S (adr W9) s.heap H locs → lv_has ls 3 [(0, .ref (qS 0)), (1, .ref (qT 0))] → f_X4_become nS nT zT zS = some res → W p l e rm_X4_become s m args below meth c H locs 0 0 (MQ below (qWv G W9 ((wSum cA qS nS res))) args s 0 0 (adr W9)) (F0 m 0 ls []) := by
  obtain ⟨hx, hb, hr, hml, hown, hts, hlocks, hK, hR, hRA⟩ := id C0
  intro zS H locs ls hP hD hS hl hf
  unfold f_X4_become at hf
  refine lv_aload_n hx hb dX4_become_0 rfl (lv_at hl 0 rfl) ?_
  refine lv_aload_n hx hb dX4_become_1 rfl (lv_at hl 1 rfl) ?_
  refine va_get (D := G) (ci := 2) (v := .int (gS_size zT)) (C := RX4) (T := TX4) (N := 6) hx hb hts fin_X4 hown hK.1 (roP hR hRA hS) 0 rfl rfl 4 (by decide) (hts _ wi_88) (fun _ h9 => h9) rfl dX4_become_2 ?_
  refine lv_aload_n hx hb dX4_become_5 rfl (lv_at hl 0 rfl) ?_
  refine va_get (D := G) (ci := 2) (v := .int (nI nS)) (C := RX4) (T := TX4) (N := 6) hx hb hts fin_X4 hown hK.1 hP 0 rfl rfl 0 (by decide) (hts _ wi_84) (fun _ h9 => h9) rfl dX4_become_6 ?_
  refine k_min32 hx hb (hml.trans hl.1.symm) hown hts wi_457 (Nat.le_of_ble_eq_true rfl) (Nat.le_of_ble_eq_true rfl) (Nat.zero_le _) (Nat.zero_le _) dX4_become_9 ?_
  refine va_put (D := G) (ci := 2) (v := .int (mmin32 (gS_size zT) (nI nS))) (ty := .int) (C := RX4) (T := TX4) (N := 6) hx hb hts fin_X4 tyX4 tyX4_ok nmX4 hown hK.1 hP hD hS 0 rfl rfl 4 (by decide) (hts _ wi_88) (fun _ h9 => h9) rfl (by decide +kernel) rfl rfl (Nat.le_of_ble_eq_true rfl) dX4_become_12 (fun H locs hP hD hS => ?_)
  have hP := sS_size_P hP
  have hD := sS_size_D hD
  refine lv_aload_n hx hb dX4_become_15 rfl (lv_at hl 0 rfl) ?_
  refine lv_aload_n hx hb dX4_become_16 rfl (lv_at hl 1 rfl) ?_
  refine va_get (D := G) (ci := 2) (v := .int (gS_ov zT)) (C := RX4) (T := TX4) (N := 6) hx hb hts fin_X4 hown hK.1 (roP hR hRA hS) 0 rfl rfl 5 (by decide) (hts _ wi_89) (fun _ h9 => h9) rfl dX4_become_17 ?_
  obtain ⟨hz_1, hf⟩ := oif hf
  refine va_put (D := G) (ci := 2) (v := .int (gS_ov zT)) (ty := .boolean) (C := RX4) (T := TX4) (N := 6) hx hb hts fin_X4 tyX4 tyX4_ok nmX4 hown hK.1 hP hD hS 0 rfl rfl 5 (by decide) (hts _ wi_89) (fun _ h9 => h9) rfl (by decide +kernel) (zb_n hz_1) (zb_f hz_1) (Nat.le_of_ble_eq_true rfl) dX4_become_20 (fun H locs hP hD hS => ?_)
  have hP := sS_ov_P hP
  have hD := sS_ov_D hD
  refine lv_iconst (v := 0) hx hb dX4_become_23 (by decide) ?_
  refine lv_istore_n (lv' := [(2, .int (0 : Int32)), (0, .ref (qS 0)), (1, .ref (qT 0))]) hx hb dX4_become_24 rfl hl (by decide) rfl (fun ls hl => ?_)
  exact b_X4_become_25 qS nS qT nT  zT C0  fuel (uS_ov (uS_size zS (mmin32 (gS_size zT) (nI nS))) (gS_ov zT)) (0 : Int32) H locs ls hP hD hS (lv_sub hl [1, 2, 0] rfl) hf

set_option maxRecDepth 100000 in
theorem m_X4_become (l : Launch) (G : va_G) (cA : Nat → ClassId) (qS : Nat → Nat) (nS : Nat) (qT : Nat → Nat) (nT : Nat) (zT : SumS) (zS : SumS) (res : SumS) (hf : f_X4_become nS nT zT zS = some res) : MWv l yX4_become (.code yX4_become cX4_become 3 none :: wd) rm_X4_become G cA [.ref (qS 0), .ref (qT 0)] ((wSum cA qS nS zS)) ((wSum cA qT nT zT)) ((wSum cA qS nS res)) := by
  refine Met.ofW (cc := cX4_become) (maxL := 3) (ret := none) (by decide) rfl ?_
  intro p e s m args below meth c s₁ B hml hv
  obtain ⟨rfl, hK, hP, hD0, hR, hRA⟩ := hv
  have C0 : Amb p s m ([.ref (qS 0), .ref (qT 0)] : List Value).toArray meth c cX4_become RX4 3 none G cA (adr ((wSum cA qS nS zS))) ((wSum cA qT nT zT)) := ⟨B.exec, B.bytes, B.returns, hml, findClass_of_methodNamed B.named, fun w h => atoms_spec (ws := (.code yX4_become cX4_become 3 none :: wd)) B.pre w (List.mem_cons_of_mem _ h), B.notSynchronized, hK, hR, hRA⟩
  have hl := lv_entry ([.ref (qS 0), .ref (qT 0)]) (n := 3) (Nat.le_of_ble_eq_true rfl)
  rw [lg_entry_eq]
  generalize (lg_sl ([.ref (qS 0), .ref (qT 0)]) ++ List.replicate (3 - (lg_sl ([.ref (qS 0), .ref (qT 0)])).length) Slot.unset).toArray = ls at hl ⊢
  have hl : lv_has ls 3 [(0, .ref (qS 0)), (1, .ref (qT 0))] := hl
  exact b_X4_become_0 (W9 := ((wSum cA qS nS zS))) qS nS qT nT  zT C0 zS s.heap [] ls hP (adr.self hD0) va_S.rf hl hf
theorem cw_X4_become {R : Room} {s : State} {args : Array Value} {own : String} {index : Nat} (ht : ∀ w ∈ wd, w.before args s = true) (hlink : Cond.methodLink own index yX4_become ∈ wd) (hR : rm_X4_become.frames + 1 ≤ R.frames ∧ 8 + (3 + 11) + rm_X4_become.locals ≤ R.locals) : CallW R s args own RX4 index yX4_become cX4_become 3 none (.code yX4_become cX4_become 3 none :: wd) rm_X4_become 0 0 1 := cwV9 1 ht wi_456 wi_454 wi_455 wi_56 hlink (by decide +kernel) rfl rfl hR
def rm_X4_matches : Room := { frames := 0, cells := 0, slots := 0, locals := 0 }
def f_X4_matches_15 (nS : Nat) (nT : Nat) (zS : SumS) (zT : SumS) : Nat → Int32 → Option (Int32)
  | 0, _ => none
  | fu + 1, x2 => if (gS_size zS) ≤ x2 then some (1 : Int32) else if inb x2 nS = true then if inb x2 nT = true then if ¬ (gS_keys zS x2.toNatClampNeg) = (gS_keys zT x2.toNatClampNeg) then some (0 : Int32) else if inb x2 nS = true then if inb x2 nT = true then if ¬ (gS_tops zS x2.toNatClampNeg) = (gS_tops zT x2.toNatClampNeg) then some (0 : Int32) else if inb x2 nS = true then if inb x2 nT = true then if (gS_bots zS x2.toNatClampNeg) = (gS_bots zT x2.toNatClampNeg) then f_X4_matches_15 nS nT zS zT fu (x2 + 1) else some (0 : Int32) else none else none else none else none else none else none
set_option maxHeartbeats 4000000 in
set_option maxRecDepth 100000 in
theorem b_X4_matches_15 {p : Program} {l : Launch} {e : Env} {s : State} {m : MethodId} {args : Array Value} {below : List Frame} {meth : Method} {c : Code} {G : va_G} {cA : Nat → ClassId} (qS : Nat → Nat) (nS : Nat) (qT : Nat → Nat) (nT : Nat) (zS : SumS) (zT : SumS) (C0 : Amb p s m args meth c cX4_matches RX4 3 (some .boolean) G cA (fun _ : Nat => False) ((wSum cA qS nS zS) ++ (wSum cA qT nT zT))) {res : Int32} : ∀ (fu : Nat) (x2 : Int32) (ls : Array Slot), lv_has ls 3 [(0, .ref (qS 0)), (1, .ref (qT 0)), (2, .int x2)] → f_X4_matches_15 nS nT zS zT fu x2 = some res → W p l e rm_X4_matches s m args below meth c s.heap [] 0 0 (MQ below (vp_Si (fun x => x = res)) args s 0 0 (fun _ : Nat => False)) (F0 m 15 ls []) := by
  obtain ⟨hx, hb, hr, hml, hown, hts, hlocks, hK, hR, hRA⟩ := id C0
  intro fu
  induction fu with
  | zero =>
    intro x2 ls hl hf
    rw [f_X4_matches_15] at hf
    cases hf
  | succ fu ih =>
    intro x2 ls hl hf
    rw [f_X4_matches_15] at hf
    refine lv_iload_n hx hb dX4_matches_15 rfl (lv_at hl 2 rfl) ?_
    refine lv_aload_n hx hb dX4_matches_16 rfl (lv_at hl 0 rfl) ?_
    refine va_get (D := G) (ci := 2) (v := .int (gS_size zS)) (C := RX4) (T := TX4) (N := 6) hx hb hts fin_X4 hown hK.1 hR 0 rfl rfl 4 (by decide) (hts _ wi_88) (fun _ h9 => h9) rfl dX4_matches_17 ?_
    refine lv_icmp_ge (tgt := 78) hx hb dX4_matches_20 (by decide) (fun c_1 => ?_) (fun c_1 => ?_)
    · rw [if_pos (c_1)] at hf
      refine lv_iconst (v := 1) hx hb dX4_matches_78 (by decide) ?_
      cases hf
      exact W.zret hx hb hr (by decide) (fun t ht hW => ⟨_, rfl, rfl, ht⟩) (fun q hq => by cases hq) dX4_matches_79 hlocks
    · rw [if_neg (c_1)] at hf
      refine lv_aload_n hx hb dX4_matches_23 rfl (lv_at hl 0 rfl) ?_
      refine va_get (D := G) (ci := 2) (v := .ref (qS 1)) (C := RX4) (T := TX4) (N := 6) hx hb hts fin_X4 hown hK.1 hR 0 rfl rfl 1 (by decide) (hts _ wi_85) (fun _ h9 => h9) rfl dX4_matches_24 ?_
      refine lv_iload_n hx hb dX4_matches_27 rfl (lv_at hl 2 rfl) ?_
      obtain ⟨hi_2, hf⟩ := oif hf
      refine va_iald hx hb hK.1 hR 1 0 rfl rfl (inb_in hi_2) dX4_matches_28 ?_
      refine lv_aload_n hx hb dX4_matches_29 rfl (lv_at hl 1 rfl) ?_
      refine va_get (D := G) (ci := 2) (v := .ref (qT 1)) (C := RX4) (T := TX4) (N := 6) hx hb hts fin_X4 hown hK.1 hR 4 rfl rfl 1 (by decide) (hts _ wi_85) (fun _ h9 => h9) rfl dX4_matches_30 ?_
      refine lv_iload_n hx hb dX4_matches_33 rfl (lv_at hl 2 rfl) ?_
      obtain ⟨hi_3, hf⟩ := oif hf
      refine va_iald hx hb hK.1 hR 5 0 rfl rfl (inb_in hi_3) dX4_matches_34 ?_
      refine lv_icmp_ne (tgt := 70) hx hb dX4_matches_35 (by decide) (fun c_4 => ?_) (fun c_4 => ?_)
      · rw [if_pos (c_4)] at hf
        refine lv_iconst (v := 0) hx hb dX4_matches_70 (by decide) ?_
        cases hf
        exact W.zret hx hb hr (by decide) (fun t ht hW => ⟨_, rfl, rfl, ht⟩) (fun q hq => by cases hq) dX4_matches_71 hlocks
      · rw [if_neg (not_not_intro c_4)] at hf
        refine lv_aload_n hx hb dX4_matches_38 rfl (lv_at hl 0 rfl) ?_
        refine va_get (D := G) (ci := 2) (v := .ref (qS 2)) (C := RX4) (T := TX4) (N := 6) hx hb hts fin_X4 hown hK.1 hR 0 rfl rfl 2 (by decide) (hts _ wi_86) (fun _ h9 => h9) rfl dX4_matches_39 ?_
        refine lv_iload_n hx hb dX4_matches_42 rfl (lv_at hl 2 rfl) ?_
        obtain ⟨hi_5, hf⟩ := oif hf
        refine va_lald hx hb hK.1 hR 2 1 rfl rfl (inb_in hi_5) dX4_matches_43 ?_
        refine lv_aload_n hx hb dX4_matches_44 rfl (lv_at hl 1 rfl) ?_
        refine va_get (D := G) (ci := 2) (v := .ref (qT 2)) (C := RX4) (T := TX4) (N := 6) hx hb hts fin_X4 hown hK.1 hR 4 rfl rfl 2 (by decide) (hts _ wi_86) (fun _ h9 => h9) rfl dX4_matches_45 ?_
        refine lv_iload_n hx hb dX4_matches_48 rfl (lv_at hl 2 rfl) ?_
        obtain ⟨hi_6, hf⟩ := oif hf
        refine va_lald hx hb hK.1 hR 6 1 rfl rfl (inb_in hi_6) dX4_matches_49 ?_
        refine W.lcmp hx hb dX4_matches_50 ?_
        refine lv_if_ne (tgt := 70) hx hb dX4_matches_51 (by decide) (fun c_7 => ?_) (fun c_7 => ?_)
        · rw [if_pos (fun h => c_7 ((lg_cmp_eq _ _).mpr h))] at hf
          refine lv_iconst (v := 0) hx hb dX4_matches_70 (by decide) ?_
          cases hf
          exact W.zret hx hb hr (by decide) (fun t ht hW => ⟨_, rfl, rfl, ht⟩) (fun q hq => by cases hq) dX4_matches_71 hlocks
        · rw [if_neg (fun h => h ((lg_cmp_eq _ _).mp c_7))] at hf
          refine lv_aload_n hx hb dX4_matches_54 rfl (lv_at hl 0 rfl) ?_
          refine va_get (D := G) (ci := 2) (v := .ref (qS 3)) (C := RX4) (T := TX4) (N := 6) hx hb hts fin_X4 hown hK.1 hR 0 rfl rfl 3 (by decide) (hts _ wi_87) (fun _ h9 => h9) rfl dX4_matches_55 ?_
          refine lv_iload_n hx hb dX4_matches_58 rfl (lv_at hl 2 rfl) ?_
          obtain ⟨hi_8, hf⟩ := oif hf
          refine va_lald hx hb hK.1 hR 3 1 rfl rfl (inb_in hi_8) dX4_matches_59 ?_
          refine lv_aload_n hx hb dX4_matches_60 rfl (lv_at hl 1 rfl) ?_
          refine va_get (D := G) (ci := 2) (v := .ref (qT 3)) (C := RX4) (T := TX4) (N := 6) hx hb hts fin_X4 hown hK.1 hR 4 rfl rfl 3 (by decide) (hts _ wi_87) (fun _ h9 => h9) rfl dX4_matches_61 ?_
          refine lv_iload_n hx hb dX4_matches_64 rfl (lv_at hl 2 rfl) ?_
          obtain ⟨hi_9, hf⟩ := oif hf
          refine va_lald hx hb hK.1 hR 7 1 rfl rfl (inb_in hi_9) dX4_matches_65 ?_
          refine W.lcmp hx hb dX4_matches_66 ?_
          refine lv_if_eq (tgt := 72) hx hb dX4_matches_67 (by decide) (fun c_10 => ?_) (fun c_10 => ?_)
          · rw [if_pos ((lg_cmp_eq _ _).mp c_10)] at hf
            refine lv_iinc (v := (x2 + 1)) (lv' := [(2, .int (x2 + 1)), (0, .ref (qS 0)), (1, .ref (qT 0))]) hx hb dX4_matches_72 hl (k := 2) rfl rfl (by decide) rfl (fun ls hl => ?_)
            refine lv_goto (tgt := 15) hx hb dX4_matches_75 (by decide) ?_
            exact ih (x2 + 1) ls (lv_sub hl [1, 2, 0] rfl) hf
          · rw [if_neg (fun h => c_10 ((lg_cmp_eq _ _).mpr h))] at hf
            refine lv_iconst (v := 0) hx hb dX4_matches_70 (by decide) ?_
            cases hf
            exact W.zret hx hb hr (by decide) (fun t ht hW => ⟨_, rfl, rfl, ht⟩) (fun q hq => by cases hq) dX4_matches_71 hlocks
def f_X4_matches (nS : Nat) (nT : Nat) (zS : SumS) (zT : SumS) : Option (Int32) := if (gS_size zS) = (gS_size zT) then f_X4_matches_15 nS nT zS zT fuel (0 : Int32) else some (0 : Int32)
set_option maxHeartbeats 4000000 in
set_option maxRecDepth 100000 in
theorem b_X4_matches_0 {p : Program} {l : Launch} {e : Env} {s : State} {m : MethodId} {args : Array Value} {below : List Frame} {meth : Method} {c : Code} {G : va_G} {cA : Nat → ClassId} (qS : Nat → Nat) (nS : Nat) (qT : Nat → Nat) (nT : Nat) (zS : SumS) (zT : SumS) (C0 : Amb p s m args meth c cX4_matches RX4 3 (some .boolean) G cA (fun _ : Nat => False) ((wSum cA qS nS zS) ++ (wSum cA qT nT zT))) {res : Int32} : ∀ (ls : Array Slot), lv_has ls 3 [(0, .ref (qS 0)), (1, .ref (qT 0))] → f_X4_matches nS nT zS zT = some res → W p l e rm_X4_matches s m args below meth c s.heap [] 0 0 (MQ below (vp_Si (fun x => x = res)) args s 0 0 (fun _ : Nat => False)) (F0 m 0 ls []) := by
  obtain ⟨hx, hb, hr, hml, hown, hts, hlocks, hK, hR, hRA⟩ := id C0
  intro ls hl hf
  unfold f_X4_matches at hf
  refine lv_aload_n hx hb dX4_matches_0 rfl (lv_at hl 0 rfl) ?_
  refine va_get (D := G) (ci := 2) (v := .int (gS_size zS)) (C := RX4) (T := TX4) (N := 6) hx hb hts fin_X4 hown hK.1 hR 0 rfl rfl 4 (by decide) (hts _ wi_88) (fun _ h9 => h9) rfl dX4_matches_1 ?_
  refine lv_aload_n hx hb dX4_matches_4 rfl (lv_at hl 1 rfl) ?_
  refine va_get (D := G) (ci := 2) (v := .int (gS_size zT)) (C := RX4) (T := TX4) (N := 6) hx hb hts fin_X4 hown hK.1 hR 4 rfl rfl 4 (by decide) (hts _ wi_88) (fun _ h9 => h9) rfl dX4_matches_5 ?_
  refine lv_icmp_eq (tgt := 13) hx hb dX4_matches_8 (by decide) (fun c_1 => ?_) (fun c_1 => ?_)
  · rw [if_pos (c_1)] at hf
    refine lv_iconst (v := 0) hx hb dX4_matches_13 (by decide) ?_
    refine lv_istore_n (lv' := [(2, .int (0 : Int32)), (0, .ref (qS 0)), (1, .ref (qT 0))]) hx hb dX4_matches_14 rfl hl (by decide) rfl (fun ls hl => ?_)
    exact b_X4_matches_15 qS nS qT nT  zS zT C0  fuel (0 : Int32) ls (lv_sub hl [1, 2, 0] rfl) hf
  · rw [if_neg (c_1)] at hf
    refine lv_iconst (v := 0) hx hb dX4_matches_11 (by decide) ?_
    cases hf
    exact W.zret hx hb hr (by decide) (fun t ht hW => ⟨_, rfl, rfl, ht⟩) (fun q hq => by cases hq) dX4_matches_12 hlocks

set_option maxRecDepth 100000 in
theorem m_X4_matches (l : Launch) (G : va_G) (cA : Nat → ClassId) (qS : Nat → Nat) (nS : Nat) (qT : Nat → Nat) (nT : Nat) (zS : SumS) (zT : SumS)  (res : Int32) (hf : f_X4_matches nS nT zS zT = some res) : MRi l yX4_matches (.code yX4_matches cX4_matches 3 (some .boolean) :: wd) rm_X4_matches G cA [.ref (qS 0), .ref (qT 0)] ((wSum cA qS nS zS) ++ (wSum cA qT nT zT)) res := by
  refine Met.ofW (cc := cX4_matches) (maxL := 3) (ret := (some .boolean)) (by decide) rfl ?_
  intro p e s m args below meth c s₁ B hml hv
  obtain ⟨rfl, hK, hR⟩ := hv
  have C0 : Amb p s m ([.ref (qS 0), .ref (qT 0)] : List Value).toArray meth c cX4_matches RX4 3 (some .boolean) G cA (fun _ : Nat => False) ((wSum cA qS nS zS) ++ (wSum cA qT nT zT)) := ⟨B.exec, B.bytes, B.returns, hml, findClass_of_methodNamed B.named, fun w h => atoms_spec (ws := (.code yX4_matches cX4_matches 3 (some .boolean) :: wd)) B.pre w (List.mem_cons_of_mem _ h), B.notSynchronized, hK, hR, fun _ _ _ h => h⟩
  have hl := lv_entry ([.ref (qS 0), .ref (qT 0)]) (n := 3) (Nat.le_of_ble_eq_true rfl)
  rw [lg_entry_eq]
  generalize (lg_sl ([.ref (qS 0), .ref (qT 0)]) ++ List.replicate (3 - (lg_sl ([.ref (qS 0), .ref (qT 0)])).length) Slot.unset).toArray = ls at hl ⊢
  have hl : lv_has ls 3 [(0, .ref (qS 0)), (1, .ref (qT 0))] := hl
  exact b_X4_matches_0 qS nS qT nT  zS zT C0  ls hl hf
theorem cw_X4_matches {R : Room} {s : State} {args : Array Value} {own : String} {index : Nat} (ht : ∀ w ∈ wd, w.before args s = true) (hlink : Cond.methodLink own index yX4_matches ∈ wd) (hR : rm_X4_matches.frames + 1 ≤ R.frames ∧ 8 + (3 + 11) + rm_X4_matches.locals ≤ R.locals) : CallW R s args own RX4 index yX4_matches cX4_matches 3 (some .boolean) (.code yX4_matches cX4_matches 3 (some .boolean) :: wd) rm_X4_matches 0 0 1 := cwV9 1 ht wi_643 wi_641 wi_642 wi_56 hlink (by decide +kernel) rfl rfl hR
