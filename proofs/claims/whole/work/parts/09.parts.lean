def rm_X3_isDigit : Room := { frames := 0, cells := 0, slots := 0, locals := 0 }
def f_X3_isDigit (a0 : Int32) : Option (Int32) := if a0 < (48 : Int32) then some (0 : Int32) else if (57 : Int32) < a0 then some (0 : Int32) else some (1 : Int32)
set_option maxHeartbeats 4000000 in
set_option maxRecDepth 100000 in
theorem b_X3_isDigit_0 {p : Program} {l : Launch} {e : Env} {s : State} {m : MethodId} {args : Array Value} {below : List Frame} {meth : Method} {c : Code} {G : va_G} {cA : Nat → ClassId} (C0 : Amb p s m args meth c cX3_isDigit RX3 1 (some .boolean) G cA (fun _ : Nat => False) []) {res : Int32} : ∀ (a0 : Int32) (ls : Array Slot), lv_has ls 1 [(0, .int a0)] → f_X3_isDigit a0 = some res → W p l e rm_X3_isDigit s m args below meth c s.heap [] 0 0 (MQ below (vp_Si (fun x => x = res)) args s 0 0 (fun _ : Nat => False)) (F0 m 0 ls []) := by
  obtain ⟨hx, hb, hr, hml, hown, hts, hlocks, hK, hR, hRA⟩ := id C0
  intro a0 ls hl hf
  unfold f_X3_isDigit at hf
  refine lv_iload_n hx hb dX3_isDigit_0 rfl (lv_at hl 0 rfl) ?_
  refine lv_bipush (v := (48 : Int32)) hx hb dX3_isDigit_1 (by decide) ?_
  refine lv_icmp_lt (tgt := 16) hx hb dX3_isDigit_3 (by decide) (fun c_1 => ?_) (fun c_1 => ?_)
  · rw [if_pos (c_1)] at hf
    refine lv_iconst (v := 0) hx hb dX3_isDigit_16 (by decide) ?_
    cases hf
    exact W.zret hx hb hr (by decide) (fun t ht hW => ⟨_, rfl, rfl, ht⟩) (fun q hq => by cases hq) dX3_isDigit_17 hlocks
  · rw [if_neg (c_1)] at hf
    refine lv_iload_n hx hb dX3_isDigit_6 rfl (lv_at hl 0 rfl) ?_
    refine lv_bipush (v := (57 : Int32)) hx hb dX3_isDigit_7 (by decide) ?_
    refine lv_icmp_gt (tgt := 16) hx hb dX3_isDigit_9 (by decide) (fun c_2 => ?_) (fun c_2 => ?_)
    · rw [if_pos (c_2)] at hf
      refine lv_iconst (v := 0) hx hb dX3_isDigit_16 (by decide) ?_
      cases hf
      exact W.zret hx hb hr (by decide) (fun t ht hW => ⟨_, rfl, rfl, ht⟩) (fun q hq => by cases hq) dX3_isDigit_17 hlocks
    · rw [if_neg (c_2)] at hf
      refine lv_iconst (v := 1) hx hb dX3_isDigit_12 (by decide) ?_
      refine lv_goto (tgt := 17) hx hb dX3_isDigit_13 (by decide) ?_
      cases hf
      exact W.zret hx hb hr (by decide) (fun t ht hW => ⟨_, rfl, rfl, ht⟩) (fun q hq => by cases hq) dX3_isDigit_17 hlocks

set_option maxRecDepth 100000 in
theorem m_X3_isDigit (l : Launch) (G : va_G) (cA : Nat → ClassId) (a0 : Int32) (res : Int32) (hf : f_X3_isDigit a0 = some res) : MRi l yX3_isDigit (.code yX3_isDigit cX3_isDigit 1 (some .boolean) :: wd) rm_X3_isDigit G cA [.int a0] [] res := by
  refine Met.ofW (cc := cX3_isDigit) (maxL := 1) (ret := (some .boolean)) (by decide) rfl ?_
  intro p e s m args below meth c s₁ B hml hv
  obtain ⟨rfl, hK, hR⟩ := hv
  have C0 : Amb p s m ([.int a0] : List Value).toArray meth c cX3_isDigit RX3 1 (some .boolean) G cA (fun _ : Nat => False) [] := ⟨B.exec, B.bytes, B.returns, hml, findClass_of_methodNamed B.named, fun w h => atoms_spec (ws := (.code yX3_isDigit cX3_isDigit 1 (some .boolean) :: wd)) B.pre w (List.mem_cons_of_mem _ h), B.notSynchronized, hK, hR, fun _ _ _ h => h⟩
  have hl := lv_entry ([.int a0]) (n := 1) (Nat.le_of_ble_eq_true rfl)
  rw [lg_entry_eq]
  generalize (lg_sl ([.int a0]) ++ List.replicate (1 - (lg_sl ([.int a0])).length) Slot.unset).toArray = ls at hl ⊢
  have hl : lv_has ls 1 [(0, .int a0)] := hl
  exact b_X3_isDigit_0    C0 a0 ls hl hf
theorem cw_X3_isDigit {R : Room} {s : State} {args : Array Value} {own : String} {index : Nat} (ht : ∀ w ∈ wd, w.before args s = true) (hlink : Cond.methodLink own index yX3_isDigit ∈ wd) (hR : rm_X3_isDigit.frames + 1 ≤ R.frames ∧ 8 + (1 + 11) + rm_X3_isDigit.locals ≤ R.locals) : CallB R s args own index yX3_isDigit cX3_isDigit 1 (some .boolean) (.code yX3_isDigit cX3_isDigit 1 (some .boolean) :: wd) rm_X3_isDigit 0 0 1 ∧ (Cond.static yX3_isDigit).before args s = true := cwS9 1 ht wi_353 wi_352 wi_58 hlink (by decide +kernel) rfl rfl hR
def rm_X3_faultPlace : Room := { frames := 0, cells := 0, slots := 0, locals := 0 }
def f_X3_faultPlace (zD : RdS) : Option (Int32) := some (gR_place zD)
set_option maxHeartbeats 4000000 in
set_option maxRecDepth 100000 in
theorem b_X3_faultPlace_0 {p : Program} {l : Launch} {e : Env} {s : State} {m : MethodId} {args : Array Value} {below : List Frame} {meth : Method} {c : Code} {G : va_G} {cA : Nat → ClassId} (qD : Nat → Nat) (qLn : Nat → Nat) (qSm : Nat → Nat) (zD : RdS) (C0 : Amb p s m args meth c cX3_faultPlace RX3 1 (some .int) G cA (fun _ : Nat => False) ((wRd qD qLn qSm zD))) {res : Int32} : ∀ (ls : Array Slot), lv_has ls 1 [(0, .ref (qD 0))] → f_X3_faultPlace zD = some res → W p l e rm_X3_faultPlace s m args below meth c s.heap [] 0 0 (MQ below (vp_Si (fun x => x = res)) args s 0 0 (fun _ : Nat => False)) (F0 m 0 ls []) := by
  obtain ⟨hx, hb, hr, hml, hown, hts, hlocks, hK, hR, hRA⟩ := id C0
  intro ls hl hf
  unfold f_X3_faultPlace at hf
  refine lv_aload_n hx hb dX3_faultPlace_0 rfl (lv_at hl 0 rfl) ?_
  refine va_get (D := G) (ci := 1) (v := .int (gR_place zD)) (C := RX3) (T := TX3) (N := 10) hx hb hts fin_X3 hown hK.1 hR 0 rfl rfl 4 (by decide) (hts _ wi_131) (fun _ h9 => h9) rfl dX3_faultPlace_1 ?_
  cases hf
  exact W.iret hx hb hr (fun t ht hW => ⟨_, rfl, rfl, ht⟩) (fun q hq => by cases hq) dX3_faultPlace_4 hlocks

set_option maxRecDepth 100000 in
theorem m_X3_faultPlace (l : Launch) (G : va_G) (cA : Nat → ClassId) (qD : Nat → Nat) (qLn : Nat → Nat) (qSm : Nat → Nat) (zD : RdS)  (res : Int32) (hf : f_X3_faultPlace zD = some res) : MRi l yX3_faultPlace (.code yX3_faultPlace cX3_faultPlace 1 (some .int) :: wd) rm_X3_faultPlace G cA [.ref (qD 0)] ((wRd qD qLn qSm zD)) res := by
  refine Met.ofW (cc := cX3_faultPlace) (maxL := 1) (ret := (some .int)) (by decide) rfl ?_
  intro p e s m args below meth c s₁ B hml hv
  obtain ⟨rfl, hK, hR⟩ := hv
  have C0 : Amb p s m ([.ref (qD 0)] : List Value).toArray meth c cX3_faultPlace RX3 1 (some .int) G cA (fun _ : Nat => False) ((wRd qD qLn qSm zD)) := ⟨B.exec, B.bytes, B.returns, hml, findClass_of_methodNamed B.named, fun w h => atoms_spec (ws := (.code yX3_faultPlace cX3_faultPlace 1 (some .int) :: wd)) B.pre w (List.mem_cons_of_mem _ h), B.notSynchronized, hK, hR, fun _ _ _ h => h⟩
  have hl := lv_entry ([.ref (qD 0)]) (n := 1) (Nat.le_of_ble_eq_true rfl)
  rw [lg_entry_eq]
  generalize (lg_sl ([.ref (qD 0)]) ++ List.replicate (1 - (lg_sl ([.ref (qD 0)])).length) Slot.unset).toArray = ls at hl ⊢
  have hl : lv_has ls 1 [(0, .ref (qD 0))] := hl
  exact b_X3_faultPlace_0 qD qLn qSm zD C0  ls hl hf
theorem cw_X3_faultPlace {R : Room} {s : State} {args : Array Value} {own : String} {index : Nat} (ht : ∀ w ∈ wd, w.before args s = true) (hlink : Cond.methodLink own index yX3_faultPlace ∈ wd) (hR : rm_X3_faultPlace.frames + 1 ≤ R.frames ∧ 8 + (1 + 11) + rm_X3_faultPlace.locals ≤ R.locals) : CallW R s args own RX3 index yX3_faultPlace cX3_faultPlace 1 (some .int) (.code yX3_faultPlace cX3_faultPlace 1 (some .int) :: wd) rm_X3_faultPlace 0 0 0 := cwV9 0 ht wi_209 wi_207 wi_208 wi_58 hlink (by decide +kernel) rfl rfl hR
def rm_X3_refuse : Room := { frames := 0, cells := 0, slots := 0, locals := 0 }
def f_X3_refuse (zD : RdS) (a1 : Int32) (a2 : Int32) : Option (Int32 × RdS) := some ((0 : Int32), (uR_place (uR_fault zD a1) a2))
set_option maxHeartbeats 4000000 in
set_option maxRecDepth 100000 in
theorem b_X3_refuse_0 {p : Program} {l : Launch} {e : Env} {s : State} {m : MethodId} {args : Array Value} {below : List Frame} {meth : Method} {c : Code} {G : va_G} {cA : Nat → ClassId} {W9 : va_W} (qD : Nat → Nat) (qLn : Nat → Nat) (qSm : Nat → Nat) (C0 : Amb p s m args meth c cX3_refuse RX3 3 (some .boolean) G cA (adr W9) []) {res : Int32 × RdS} : ∀ (zD : RdS) (a1 : Int32) (a2 : Int32) (H : Heap) (locs : List Loc) (ls : Array Slot), va_P G vwCl ((wRd qD qLn qSm zD)) H → va_D (adr W9) ((wRd qD qLn qSm zD)) → va_S (adr W9) s.heap H locs → lv_has ls 3 [(0, .ref (qD 0)), (1, .int a1), (2, .int a2)] → f_X3_refuse zD a1 a2 = some res → W p l e rm_X3_refuse s m args below meth c H locs 0 0 (MQ below (qWi G W9 ((wRd qD qLn qSm res.2)) res.1) args s 0 0 (adr W9)) (F0 m 0 ls []) := by
  obtain ⟨hx, hb, hr, hml, hown, hts, hlocks, hK, hR, hRA⟩ := id C0
  intro zD a1 a2 H locs ls hP hD hS hl hf
  unfold f_X3_refuse at hf
  refine lv_aload_n hx hb dX3_refuse_0 rfl (lv_at hl 0 rfl) ?_
  refine lv_iload_n hx hb dX3_refuse_1 rfl (lv_at hl 1 rfl) ?_
  refine va_put (D := G) (ci := 1) (v := .int a1) (ty := .int) (C := RX3) (T := TX3) (N := 10) hx hb hts fin_X3 tyX3 tyX3_ok nmX3 hown hK.1 hP hD hS 0 rfl rfl 3 (by decide) (hts _ wi_130) (fun _ h9 => h9) rfl (by decide +kernel) rfl rfl (Nat.le_of_ble_eq_true rfl) dX3_refuse_2 (fun H locs hP hD hS => ?_)
  have hP := sR_fault_P hP
  have hD := sR_fault_D hD
  refine lv_aload_n hx hb dX3_refuse_5 rfl (lv_at hl 0 rfl) ?_
  refine lv_iload_n hx hb dX3_refuse_6 rfl (lv_at hl 2 rfl) ?_
  refine va_put (D := G) (ci := 1) (v := .int a2) (ty := .int) (C := RX3) (T := TX3) (N := 10) hx hb hts fin_X3 tyX3 tyX3_ok nmX3 hown hK.1 hP hD hS 0 rfl rfl 4 (by decide) (hts _ wi_131) (fun _ h9 => h9) rfl (by decide +kernel) rfl rfl (Nat.le_of_ble_eq_true rfl) dX3_refuse_7 (fun H locs hP hD hS => ?_)
  have hP := sR_place_P hP
  have hD := sR_place_D hD
  refine lv_iconst (v := 0) hx hb dX3_refuse_10 (by decide) ?_
  cases hf
  exact W.zret hx hb hr (by decide) (fun t ht hW => ⟨⟨_, (), rfl, rfl, toT ht hP⟩, hS.F ht⟩) hS.2.2 dX3_refuse_11 hlocks

set_option maxRecDepth 100000 in
theorem m_X3_refuse (l : Launch) (G : va_G) (cA : Nat → ClassId) (qD : Nat → Nat) (qLn : Nat → Nat) (qSm : Nat → Nat) (zD : RdS) (a1 : Int32) (a2 : Int32) (res : Int32 × RdS) (hf : f_X3_refuse zD a1 a2 = some res) : MWi l yX3_refuse (.code yX3_refuse cX3_refuse 3 (some .boolean) :: wd) rm_X3_refuse G cA [.ref (qD 0), .int a1, .int a2] ((wRd qD qLn qSm zD)) [] ((wRd qD qLn qSm res.2)) res.1 := by
  refine Met.ofW (cc := cX3_refuse) (maxL := 3) (ret := (some .boolean)) (by decide) rfl ?_
  intro p e s m args below meth c s₁ B hml hv
  obtain ⟨rfl, hK, hP, hD0, hR, hRA⟩ := hv
  have C0 : Amb p s m ([.ref (qD 0), .int a1, .int a2] : List Value).toArray meth c cX3_refuse RX3 3 (some .boolean) G cA (adr ((wRd qD qLn qSm zD))) [] := ⟨B.exec, B.bytes, B.returns, hml, findClass_of_methodNamed B.named, fun w h => atoms_spec (ws := (.code yX3_refuse cX3_refuse 3 (some .boolean) :: wd)) B.pre w (List.mem_cons_of_mem _ h), B.notSynchronized, hK, hR, hRA⟩
  have hl := lv_entry ([.ref (qD 0), .int a1, .int a2]) (n := 3) (Nat.le_of_ble_eq_true rfl)
  rw [lg_entry_eq]
  generalize (lg_sl ([.ref (qD 0), .int a1, .int a2]) ++ List.replicate (3 - (lg_sl ([.ref (qD 0), .int a1, .int a2])).length) Slot.unset).toArray = ls at hl ⊢
  have hl : lv_has ls 3 [(0, .ref (qD 0)), (1, .int a1), (2, .int a2)] := hl
  exact b_X3_refuse_0 (W9 := ((wRd qD qLn qSm zD))) qD qLn qSm  C0 zD a1 a2 s.heap [] ls hP (adr.self hD0) va_S.rf hl hf
theorem cw_X3_refuse {R : Room} {s : State} {args : Array Value} {own : String} {index : Nat} (ht : ∀ w ∈ wd, w.before args s = true) (hlink : Cond.methodLink own index yX3_refuse ∈ wd) (hR : rm_X3_refuse.frames + 1 ≤ R.frames ∧ 8 + (3 + 11) + rm_X3_refuse.locals ≤ R.locals) : CallW R s args own RX3 index yX3_refuse cX3_refuse 3 (some .boolean) (.code yX3_refuse cX3_refuse 3 (some .boolean) :: wd) rm_X3_refuse 0 0 2 := cwV9 2 ht wi_361 wi_360 wi_6 wi_58 hlink (by decide +kernel) rfl rfl hR
def rm_X3_next : Room := { frames := 0, cells := 0, slots := 0, locals := 0 }
def f_X3_next_44 (zL : LineS) (zD : RdS) : Option (Int32 × RdS) := if (gL_len zL) ≤ (gR_at zD) then if cb (0 : Int32) = true then some ((0 : Int32), zD) else none else if inb (gR_at zD) 100 = true then if cb (gL_ch zL (gR_at zD).toNatClampNeg) = true then some ((gL_ch zL (gR_at zD).toNatClampNeg), zD) else none else none
set_option maxHeartbeats 4000000 in
set_option maxRecDepth 100000 in
theorem b_X3_next_44 {p : Program} {l : Launch} {e : Env} {s : State} {m : MethodId} {args : Array Value} {below : List Frame} {meth : Method} {c : Code} {G : va_G} {cA : Nat → ClassId} {W9 : va_W} (qD : Nat → Nat) (qL : Nat → Nat) (qSm : Nat → Nat) (zL : LineS) (C0 : Amb p s m args meth c cX3_next RX3 1 (some .char) G cA (adr W9) ((wLine cA qL zL))) {res : Int32 × RdS} : ∀ (zD : RdS) (H : Heap) (locs : List Loc) (ls : Array Slot), va_P G vwCl ((wRd qD qL qSm zD)) H → va_D (adr W9) ((wRd qD qL qSm zD)) → va_S (adr W9) s.heap H locs → lv_has ls 1 [(0, .ref (qD 0))] → f_X3_next_44 zL zD = some res → W p l e rm_X3_next s m args below meth c H locs 0 0 (MQ below (qWi G W9 ((wRd qD qL qSm res.2)) res.1) args s 0 0 (adr W9)) (F0 m 44 ls []) := by
  obtain ⟨hx, hb, hr, hml, hown, hts, hlocks, hK, hR, hRA⟩ := id C0
  intro zD H locs ls hP hD hS hl hf
  unfold f_X3_next_44 at hf
  refine lv_aload_n hx hb dX3_next_44 rfl (lv_at hl 0 rfl) ?_
  refine va_get (D := G) (ci := 1) (v := .int (gR_at zD)) (C := RX3) (T := TX3) (N := 10) hx hb hts fin_X3 hown hK.1 hP 0 rfl rfl 2 (by decide) (hts _ wi_129) (fun _ h9 => h9) rfl dX3_next_45 ?_
  refine lv_aload_n hx hb dX3_next_48 rfl (lv_at hl 0 rfl) ?_
  refine va_get (D := G) (ci := 1) (v := .ref (qL 0)) (C := RX3) (T := TX3) (N := 10) hx hb hts fin_X3 hown hK.1 hP 0 rfl rfl 0 (by decide) (hts _ wi_127) (fun _ h9 => h9) rfl dX3_next_49 ?_
  refine va_getN (D := G) (ci := 0) (v := .int (gL_len zL)) (C := RX1) (T := TX1) (N := 2) hx hb hts fin_X1 hown hK.1 (roP hR hRA hS) 0 rfl rfl 1 (by decide) (va_Nw.use rfl hK.2.1) (fun _ h9 => h9) rfl dX3_next_52 ?_
  refine lv_icmp_ge (tgt := 73) hx hb dX3_next_55 (by decide) (fun c_1 => ?_) (fun c_1 => ?_)
  · rw [if_pos (c_1)] at hf
    refine lv_iconst (v := 0) hx hb dX3_next_73 (by decide) ?_
    obtain ⟨hz_2, hf⟩ := oif hf
    cases hf
    exact W.zret hx hb hr (cb_n hz_2) (fun t ht hW => ⟨⟨_, (), rfl, rfl, toT ht hP⟩, hS.F ht⟩) hS.2.2 dX3_next_74 hlocks
  · rw [if_neg (c_1)] at hf
    refine lv_aload_n hx hb dX3_next_58 rfl (lv_at hl 0 rfl) ?_
    refine va_get (D := G) (ci := 1) (v := .ref (qL 0)) (C := RX3) (T := TX3) (N := 10) hx hb hts fin_X3 hown hK.1 hP 0 rfl rfl 0 (by decide) (hts _ wi_127) (fun _ h9 => h9) rfl dX3_next_59 ?_
    refine va_getN (D := G) (ci := 0) (v := .ref (qL 1)) (C := RX1) (T := TX1) (N := 2) hx hb hts fin_X1 hown hK.1 (roP hR hRA hS) 0 rfl rfl 0 (by decide) (va_Nw.use rfl hK.2.2) (fun _ h9 => h9) rfl dX3_next_62 ?_
    refine lv_aload_n hx hb dX3_next_65 rfl (lv_at hl 0 rfl) ?_
    refine va_get (D := G) (ci := 1) (v := .int (gR_at zD)) (C := RX3) (T := TX3) (N := 10) hx hb hts fin_X3 hown hK.1 hP 0 rfl rfl 2 (by decide) (hts _ wi_129) (fun _ h9 => h9) rfl dX3_next_66 ?_
    obtain ⟨hi_3, hf⟩ := oif hf
    refine va_cald hx hb hK.1 (roP hR hRA hS) 1 2 rfl rfl (inb_in hi_3) dX3_next_69 ?_
    refine lv_goto (tgt := 74) hx hb dX3_next_70 (by decide) ?_
    obtain ⟨hz_4, hf⟩ := oif hf
    cases hf
    exact W.zret hx hb hr (cb_n hz_4) (fun t ht hW => ⟨⟨_, (), rfl, rfl, toT ht hP⟩, hS.F ht⟩) hS.2.2 dX3_next_74 hlocks
def f_X3_next_0 (zL : LineS) : Nat → RdS → Option (Int32 × RdS)
  | 0, _ => none
  | fu + 1, zD => if (gL_len zL) ≤ (gR_at zD) then f_X3_next_44 zL zD else if inb (gR_at zD) 100 = true then if ¬ (gL_ch zL (gR_at zD).toNatClampNeg) = (32 : Int32) then f_X3_next_44 zL zD else f_X3_next_0 zL fu (uR_at zD ((gR_at zD) + (1 : Int32))) else none
set_option maxHeartbeats 4000000 in
set_option maxRecDepth 100000 in
theorem b_X3_next_0 {p : Program} {l : Launch} {e : Env} {s : State} {m : MethodId} {args : Array Value} {below : List Frame} {meth : Method} {c : Code} {G : va_G} {cA : Nat → ClassId} {W9 : va_W} (qD : Nat → Nat) (qL : Nat → Nat) (qSm : Nat → Nat) (zL : LineS) (C0 : Amb p s m args meth c cX3_next RX3 1 (some .char) G cA (adr W9) ((wLine cA qL zL))) {res : Int32 × RdS} : ∀ (fu : Nat) (zD : RdS) (H : Heap) (locs : List Loc) (ls : Array Slot), va_P G vwCl ((wRd qD qL qSm zD)) H → va_D (adr W9) ((wRd qD qL qSm zD)) → va_S (adr W9) s.heap H locs → lv_has ls 1 [(0, .ref (qD 0))] → f_X3_next_0 zL fu zD = some res → W p l e rm_X3_next s m args below meth c H locs 0 0 (MQ below (qWi G W9 ((wRd qD qL qSm res.2)) res.1) args s 0 0 (adr W9)) (F0 m 0 ls []) := by
  obtain ⟨hx, hb, hr, hml, hown, hts, hlocks, hK, hR, hRA⟩ := id C0
  intro fu
  induction fu with
  | zero =>
    intro zD H locs ls hP hD hS hl hf
    rw [f_X3_next_0] at hf
    cases hf
  | succ fu ih =>
    intro zD H locs ls hP hD hS hl hf
    rw [f_X3_next_0] at hf
    refine lv_aload_n hx hb dX3_next_0 rfl (lv_at hl 0 rfl) ?_
    refine va_get (D := G) (ci := 1) (v := .int (gR_at zD)) (C := RX3) (T := TX3) (N := 10) hx hb hts fin_X3 hown hK.1 hP 0 rfl rfl 2 (by decide) (hts _ wi_129) (fun _ h9 => h9) rfl dX3_next_1 ?_
    refine lv_aload_n hx hb dX3_next_4 rfl (lv_at hl 0 rfl) ?_
    refine va_get (D := G) (ci := 1) (v := .ref (qL 0)) (C := RX3) (T := TX3) (N := 10) hx hb hts fin_X3 hown hK.1 hP 0 rfl rfl 0 (by decide) (hts _ wi_127) (fun _ h9 => h9) rfl dX3_next_5 ?_
    refine va_getN (D := G) (ci := 0) (v := .int (gL_len zL)) (C := RX1) (T := TX1) (N := 2) hx hb hts fin_X1 hown hK.1 (roP hR hRA hS) 0 rfl rfl 1 (by decide) (va_Nw.use rfl hK.2.1) (fun _ h9 => h9) rfl dX3_next_8 ?_
    refine lv_icmp_ge (tgt := 44) hx hb dX3_next_11 (by decide) (fun c_1 => ?_) (fun c_1 => ?_)
    · rw [if_pos (c_1)] at hf
      exact b_X3_next_44 qD qL qSm zL C0  zD H locs ls hP hD hS (lv_sub hl [0] rfl) hf
    · rw [if_neg (c_1)] at hf
      refine lv_aload_n hx hb dX3_next_14 rfl (lv_at hl 0 rfl) ?_
      refine va_get (D := G) (ci := 1) (v := .ref (qL 0)) (C := RX3) (T := TX3) (N := 10) hx hb hts fin_X3 hown hK.1 hP 0 rfl rfl 0 (by decide) (hts _ wi_127) (fun _ h9 => h9) rfl dX3_next_15 ?_
      refine va_getN (D := G) (ci := 0) (v := .ref (qL 1)) (C := RX1) (T := TX1) (N := 2) hx hb hts fin_X1 hown hK.1 (roP hR hRA hS) 0 rfl rfl 0 (by decide) (va_Nw.use rfl hK.2.2) (fun _ h9 => h9) rfl dX3_next_18 ?_
      refine lv_aload_n hx hb dX3_next_21 rfl (lv_at hl 0 rfl) ?_
      refine va_get (D := G) (ci := 1) (v := .int (gR_at zD)) (C := RX3) (T := TX3) (N := 10) hx hb hts fin_X3 hown hK.1 hP 0 rfl rfl 2 (by decide) (hts _ wi_129) (fun _ h9 => h9) rfl dX3_next_22 ?_
      obtain ⟨hi_2, hf⟩ := oif hf
      refine va_cald hx hb hK.1 (roP hR hRA hS) 1 2 rfl rfl (inb_in hi_2) dX3_next_25 ?_
      refine lv_bipush (v := (32 : Int32)) hx hb dX3_next_26 (by decide) ?_
      refine lv_icmp_ne (tgt := 44) hx hb dX3_next_28 (by decide) (fun c_3 => ?_) (fun c_3 => ?_)
      · rw [if_pos (c_3)] at hf
        exact b_X3_next_44 qD qL qSm zL C0  zD H locs ls hP hD hS (lv_sub hl [0] rfl) hf
      · rw [if_neg (not_not_intro c_3)] at hf
        refine lv_aload_n hx hb dX3_next_31 rfl (lv_at hl 0 rfl) ?_
        refine lv_dup hx hb dX3_next_32 rfl ?_
        refine va_get (D := G) (ci := 1) (v := .int (gR_at zD)) (C := RX3) (T := TX3) (N := 10) hx hb hts fin_X3 hown hK.1 hP 0 rfl rfl 2 (by decide) (hts _ wi_129) (fun _ h9 => h9) rfl dX3_next_33 ?_
        refine lv_iconst (v := 1) hx hb dX3_next_36 (by decide) ?_
        refine lv_iadd hx hb dX3_next_37 ?_
        refine va_put (D := G) (ci := 1) (v := .int ((gR_at zD) + (1 : Int32))) (ty := .int) (C := RX3) (T := TX3) (N := 10) hx hb hts fin_X3 tyX3 tyX3_ok nmX3 hown hK.1 hP hD hS 0 rfl rfl 2 (by decide) (hts _ wi_129) (fun _ h9 => h9) rfl (by decide +kernel) rfl rfl (Nat.le_of_ble_eq_true rfl) dX3_next_38 (fun H locs hP hD hS => ?_)
        have hP := sR_at_P hP
        have hD := sR_at_D hD
        refine lv_goto (tgt := 0) hx hb dX3_next_41 (by decide) ?_
        exact ih (uR_at zD ((gR_at zD) + (1 : Int32))) H locs ls hP hD hS (lv_sub hl [0] rfl) hf

def f_X3_next (zL : LineS) (zD : RdS) : Option (Int32 × RdS) := f_X3_next_0 zL fuel zD
set_option maxRecDepth 100000 in
theorem m_X3_next (l : Launch) (G : va_G) (cA : Nat → ClassId) (qD : Nat → Nat) (qL : Nat → Nat) (qSm : Nat → Nat) (zL : LineS) (zD : RdS) (res : Int32 × RdS) (hf : f_X3_next zL zD = some res) : MWi l yX3_next (.code yX3_next cX3_next 1 (some .char) :: wd) rm_X3_next G cA [.ref (qD 0)] ((wRd qD qL qSm zD)) ((wLine cA qL zL)) ((wRd qD qL qSm res.2)) res.1 := by
  refine Met.ofW (cc := cX3_next) (maxL := 1) (ret := (some .char)) (by decide) rfl ?_
  intro p e s m args below meth c s₁ B hml hv
  obtain ⟨rfl, hK, hP, hD0, hR, hRA⟩ := hv
  have C0 : Amb p s m ([.ref (qD 0)] : List Value).toArray meth c cX3_next RX3 1 (some .char) G cA (adr ((wRd qD qL qSm zD))) ((wLine cA qL zL)) := ⟨B.exec, B.bytes, B.returns, hml, findClass_of_methodNamed B.named, fun w h => atoms_spec (ws := (.code yX3_next cX3_next 1 (some .char) :: wd)) B.pre w (List.mem_cons_of_mem _ h), B.notSynchronized, hK, hR, hRA⟩
  have hl := lv_entry ([.ref (qD 0)]) (n := 1) (Nat.le_of_ble_eq_true rfl)
  rw [lg_entry_eq]
  generalize (lg_sl ([.ref (qD 0)]) ++ List.replicate (1 - (lg_sl ([.ref (qD 0)])).length) Slot.unset).toArray = ls at hl ⊢
  have hl : lv_has ls 1 [(0, .ref (qD 0))] := hl
  unfold f_X3_next at hf
  exact b_X3_next_0 (W9 := ((wRd qD qL qSm zD))) qD qL qSm zL C0 fuel zD s.heap [] ls hP (adr.self hD0) va_S.rf hl hf
theorem cw_X3_next {R : Room} {s : State} {args : Array Value} {own : String} {index : Nat} (ht : ∀ w ∈ wd, w.before args s = true) (hlink : Cond.methodLink own index yX3_next ∈ wd) (hR : rm_X3_next.frames + 1 ≤ R.frames ∧ 8 + (1 + 11) + rm_X3_next.locals ≤ R.locals) : CallW R s args own RX3 index yX3_next cX3_next 1 (some .char) (.code yX3_next cX3_next 1 (some .char) :: wd) rm_X3_next 0 0 0 := cwV9 0 ht wi_342 wi_341 wi_2 wi_58 hlink (by decide +kernel) rfl rfl hR
def rm_X3_takes : Room := { frames := 1, cells := 0, slots := 0, locals := 20 }
def f_X3_takes (zL : LineS) (zD : RdS) (a1 : Int32) : Option (Int32 × RdS) := (f_X3_next zL zD).bind fun r_1 => if r_1.1 = a1 then some ((1 : Int32), (uR_at r_1.2 ((gR_at r_1.2) + (1 : Int32)))) else some ((0 : Int32), r_1.2)
set_option maxHeartbeats 4000000 in
set_option maxRecDepth 100000 in
theorem b_X3_takes_0 {p : Program} {l : Launch} {e : Env} {s : State} {m : MethodId} {args : Array Value} {below : List Frame} {meth : Method} {c : Code} {G : va_G} {cA : Nat → ClassId} {W9 : va_W} (qD : Nat → Nat) (qL : Nat → Nat) (qSm : Nat → Nat) (zL : LineS) (C0 : Amb p s m args meth c cX3_takes RX3 2 (some .boolean) G cA (adr W9) ((wLine cA qL zL))) {res : Int32 × RdS} : ∀ (zD : RdS) (a1 : Int32) (H : Heap) (locs : List Loc) (ls : Array Slot), va_P G vwCl ((wRd qD qL qSm zD)) H → va_D (adr W9) ((wRd qD qL qSm zD)) → va_S (adr W9) s.heap H locs → lv_has ls 2 [(0, .ref (qD 0)), (1, .int a1)] → f_X3_takes zL zD a1 = some res → W p l e rm_X3_takes s m args below meth c H locs 0 0 (MQ below (qWi G W9 ((wRd qD qL qSm res.2)) res.1) args s 0 0 (adr W9)) (F0 m 0 ls []) := by
  obtain ⟨hx, hb, hr, hml, hown, hts, hlocks, hK, hR, hRA⟩ := id C0
  intro zD a1 H locs ls hP hD hS hl hf
  unfold f_X3_takes at hf
  refine lv_aload_n hx hb dX3_takes_0 rfl (lv_at hl 0 rfl) ?_
  obtain ⟨r_1, hr_1, hf⟩ := obd hf
  refine cWiV (As := []) (rest := []) (W1 := ((wRd qD qL qSm r_1.2))) ⟨hx, hb, hml, hown, hts⟩ (m_X3_next l G cA qD qL qSm zL zD r_1 hr_1) (cw_X3_next hts wi_339 ⟨Nat.le_of_ble_eq_true rfl, Nat.le_of_ble_eq_true rfl⟩) hK hP hD hS [0] [1] rfl rfl rfl (by decide) rfl (pk (roP hR hRA hS) [0, 1] rfl) (dj_ro hD hRA [0, 1] (rfl : [0].map _ = _) rfl) (va_recv hK.1 hP (ci := 1) (q0 := 0) rfl rfl) rfl hl.1 rfl (Nat.le_of_ble_eq_true rfl) dX3_takes_1 ⟨Nat.zero_le _, Nat.zero_le _⟩ (fun H locs hP hD hS => ?_)
  refine lv_iload_n hx hb dX3_takes_4 rfl (lv_at hl 1 rfl) ?_
  refine lv_icmp_eq (tgt := 10) hx hb dX3_takes_5 (by decide) (fun c_2 => ?_) (fun c_2 => ?_)
  · rw [if_pos (c_2)] at hf
    refine lv_aload_n hx hb dX3_takes_10 rfl (lv_at hl 0 rfl) ?_
    refine lv_dup hx hb dX3_takes_11 rfl ?_
    refine va_get (D := G) (ci := 1) (v := .int (gR_at r_1.2)) (C := RX3) (T := TX3) (N := 10) hx hb hts fin_X3 hown hK.1 hP 0 rfl rfl 2 (by decide) (hts _ wi_129) (fun _ h9 => h9) rfl dX3_takes_12 ?_
    refine lv_iconst (v := 1) hx hb dX3_takes_15 (by decide) ?_
    refine lv_iadd hx hb dX3_takes_16 ?_
    refine va_put (D := G) (ci := 1) (v := .int ((gR_at r_1.2) + (1 : Int32))) (ty := .int) (C := RX3) (T := TX3) (N := 10) hx hb hts fin_X3 tyX3 tyX3_ok nmX3 hown hK.1 hP hD hS 0 rfl rfl 2 (by decide) (hts _ wi_129) (fun _ h9 => h9) rfl (by decide +kernel) rfl rfl (Nat.le_of_ble_eq_true rfl) dX3_takes_17 (fun H locs hP hD hS => ?_)
    have hP := sR_at_P hP
    have hD := sR_at_D hD
    refine lv_iconst (v := 1) hx hb dX3_takes_20 (by decide) ?_
    cases hf
    exact W.zret hx hb hr (by decide) (fun t ht hW => ⟨⟨_, (), rfl, rfl, toT ht hP⟩, hS.F ht⟩) hS.2.2 dX3_takes_21 hlocks
  · rw [if_neg (c_2)] at hf
    refine lv_iconst (v := 0) hx hb dX3_takes_8 (by decide) ?_
    cases hf
    exact W.zret hx hb hr (by decide) (fun t ht hW => ⟨⟨_, (), rfl, rfl, toT ht hP⟩, hS.F ht⟩) hS.2.2 dX3_takes_9 hlocks

set_option maxRecDepth 100000 in
theorem m_X3_takes (l : Launch) (G : va_G) (cA : Nat → ClassId) (qD : Nat → Nat) (qL : Nat → Nat) (qSm : Nat → Nat) (zL : LineS) (zD : RdS) (a1 : Int32) (res : Int32 × RdS) (hf : f_X3_takes zL zD a1 = some res) : MWi l yX3_takes (.code yX3_takes cX3_takes 2 (some .boolean) :: wd) rm_X3_takes G cA [.ref (qD 0), .int a1] ((wRd qD qL qSm zD)) ((wLine cA qL zL)) ((wRd qD qL qSm res.2)) res.1 := by
  refine Met.ofW (cc := cX3_takes) (maxL := 2) (ret := (some .boolean)) (by decide) rfl ?_
  intro p e s m args below meth c s₁ B hml hv
  obtain ⟨rfl, hK, hP, hD0, hR, hRA⟩ := hv
  have C0 : Amb p s m ([.ref (qD 0), .int a1] : List Value).toArray meth c cX3_takes RX3 2 (some .boolean) G cA (adr ((wRd qD qL qSm zD))) ((wLine cA qL zL)) := ⟨B.exec, B.bytes, B.returns, hml, findClass_of_methodNamed B.named, fun w h => atoms_spec (ws := (.code yX3_takes cX3_takes 2 (some .boolean) :: wd)) B.pre w (List.mem_cons_of_mem _ h), B.notSynchronized, hK, hR, hRA⟩
  have hl := lv_entry ([.ref (qD 0), .int a1]) (n := 2) (Nat.le_of_ble_eq_true rfl)
  rw [lg_entry_eq]
  generalize (lg_sl ([.ref (qD 0), .int a1]) ++ List.replicate (2 - (lg_sl ([.ref (qD 0), .int a1])).length) Slot.unset).toArray = ls at hl ⊢
  have hl : lv_has ls 2 [(0, .ref (qD 0)), (1, .int a1)] := hl
  exact b_X3_takes_0 (W9 := ((wRd qD qL qSm zD))) qD qL qSm zL C0 zD a1 s.heap [] ls hP (adr.self hD0) va_S.rf hl hf
theorem cw_X3_takes {R : Room} {s : State} {args : Array Value} {own : String} {index : Nat} (ht : ∀ w ∈ wd, w.before args s = true) (hlink : Cond.methodLink own index yX3_takes ∈ wd) (hR : rm_X3_takes.frames + 1 ≤ R.frames ∧ 8 + (2 + 11) + rm_X3_takes.locals ≤ R.locals) : CallW R s args own RX3 index yX3_takes cX3_takes 2 (some .boolean) (.code yX3_takes cX3_takes 2 (some .boolean) :: wd) rm_X3_takes 0 0 1 := cwV9 1 ht wi_338 wi_337 wi_1 wi_58 hlink (by decide +kernel) rfl rfl hR
def rm_X3_expect : Room := { frames := 2, cells := 0, slots := 0, locals := 41 }
def f_X3_expect_21 (zL : LineS) (zD : RdS) : Option (Int32 × RdS) := some ((1 : Int32), zD)
set_option maxHeartbeats 4000000 in
set_option maxRecDepth 100000 in
theorem b_X3_expect_21 {p : Program} {l : Launch} {e : Env} {s : State} {m : MethodId} {args : Array Value} {below : List Frame} {meth : Method} {c : Code} {G : va_G} {cA : Nat → ClassId} {W9 : va_W} (qD : Nat → Nat) (qL : Nat → Nat) (qSm : Nat → Nat) (zL : LineS) (C0 : Amb p s m args meth c cX3_expect RX3 2 (some .boolean) G cA (adr W9) ((wLine cA qL zL))) {res : Int32 × RdS} : ∀ (zD : RdS) (H : Heap) (locs : List Loc) (ls : Array Slot), va_P G vwCl ((wRd qD qL qSm zD)) H → va_D (adr W9) ((wRd qD qL qSm zD)) → va_S (adr W9) s.heap H locs → lv_has ls 2 [] → f_X3_expect_21 zL zD = some res → W p l e rm_X3_expect s m args below meth c H locs 0 0 (MQ below (qWi G W9 ((wRd qD qL qSm res.2)) res.1) args s 0 0 (adr W9)) (F0 m 21 ls []) := by
  obtain ⟨hx, hb, hr, hml, hown, hts, hlocks, hK, hR, hRA⟩ := id C0
  intro zD H locs ls hP hD hS hl hf
  unfold f_X3_expect_21 at hf
  refine lv_iconst (v := 1) hx hb dX3_expect_21 (by decide) ?_
  refine lv_goto (tgt := 26) hx hb dX3_expect_22 (by decide) ?_
  cases hf
  exact W.zret hx hb hr (by decide) (fun t ht hW => ⟨⟨_, (), rfl, rfl, toT ht hP⟩, hS.F ht⟩) hS.2.2 dX3_expect_26 hlocks
def f_X3_expect (zL : LineS) (zD : RdS) (a1 : Int32) : Option (Int32 × RdS) := (f_X3_takes zL zD a1).bind fun r_1 => if ¬ r_1.1 = 0 then f_X3_expect_21 zL r_1.2 else (f_X3_refuse r_1.2 (-2 : Int32) (gR_at r_1.2)).bind fun r_3 => if r_3.1 = 0 then some ((0 : Int32), r_3.2) else f_X3_expect_21 zL r_3.2
set_option maxHeartbeats 4000000 in
set_option maxRecDepth 100000 in
theorem b_X3_expect_0 {p : Program} {l : Launch} {e : Env} {s : State} {m : MethodId} {args : Array Value} {below : List Frame} {meth : Method} {c : Code} {G : va_G} {cA : Nat → ClassId} {W9 : va_W} (qD : Nat → Nat) (qL : Nat → Nat) (qSm : Nat → Nat) (zL : LineS) (C0 : Amb p s m args meth c cX3_expect RX3 2 (some .boolean) G cA (adr W9) ((wLine cA qL zL))) {res : Int32 × RdS} : ∀ (zD : RdS) (a1 : Int32) (H : Heap) (locs : List Loc) (ls : Array Slot), va_P G vwCl ((wRd qD qL qSm zD)) H → va_D (adr W9) ((wRd qD qL qSm zD)) → va_S (adr W9) s.heap H locs → lv_has ls 2 [(0, .ref (qD 0)), (1, .int a1)] → f_X3_expect zL zD a1 = some res → W p l e rm_X3_expect s m args below meth c H locs 0 0 (MQ below (qWi G W9 ((wRd qD qL qSm res.2)) res.1) args s 0 0 (adr W9)) (F0 m 0 ls []) := by
  obtain ⟨hx, hb, hr, hml, hown, hts, hlocks, hK, hR, hRA⟩ := id C0
  intro zD a1 H locs ls hP hD hS hl hf
  unfold f_X3_expect at hf
  refine lv_aload_n hx hb dX3_expect_0 rfl (lv_at hl 0 rfl) ?_
  refine lv_iload_n hx hb dX3_expect_1 rfl (lv_at hl 1 rfl) ?_
  obtain ⟨r_1, hr_1, hf⟩ := obd hf
  refine cWiV (As := [.int a1]) (rest := []) (W1 := ((wRd qD qL qSm r_1.2))) ⟨hx, hb, hml, hown, hts⟩ (m_X3_takes l G cA qD qL qSm zL zD a1 r_1 hr_1) (cw_X3_takes hts wi_335 ⟨Nat.le_of_ble_eq_true rfl, Nat.le_of_ble_eq_true rfl⟩) hK hP hD hS [0] [1] rfl rfl rfl (by decide) rfl (pk (roP hR hRA hS) [0, 1] rfl) (dj_ro hD hRA [0, 1] (rfl : [0].map _ = _) rfl) (va_recv hK.1 hP (ci := 1) (q0 := 0) rfl rfl) rfl hl.1 rfl (Nat.le_of_ble_eq_true rfl) dX3_expect_2 ⟨Nat.zero_le _, Nat.zero_le _⟩ (fun H locs hP hD hS => ?_)
  refine lv_if_ne (tgt := 21) hx hb dX3_expect_5 (by decide) (fun c_2 => ?_) (fun c_2 => ?_)
  · rw [if_pos (c_2)] at hf
    exact b_X3_expect_21 qD qL qSm zL C0  r_1.2 H locs ls hP hD hS (lv_sub hl [] rfl) hf
  · rw [if_neg (not_not_intro c_2)] at hf
    refine lv_aload_n hx hb dX3_expect_8 rfl (lv_at hl 0 rfl) ?_
    refine lv_bipush (v := (-2 : Int32)) hx hb dX3_expect_9 (by decide) ?_
    refine lv_aload_n hx hb dX3_expect_11 rfl (lv_at hl 0 rfl) ?_
    refine va_get (D := G) (ci := 1) (v := .int (gR_at r_1.2)) (C := RX3) (T := TX3) (N := 10) hx hb hts fin_X3 hown hK.1 hP 0 rfl rfl 2 (by decide) (hts _ wi_129) (fun _ h9 => h9) rfl dX3_expect_12 ?_
    obtain ⟨r_3, hr_3, hf⟩ := obd hf
    refine cWiV (As := [.int (-2 : Int32), .int (gR_at r_1.2)]) (rest := []) (W1 := ((wRd qD qL qSm r_3.2))) ⟨hx, hb, hml, hown, hts⟩ (m_X3_refuse l G cA qD qL qSm r_1.2 (-2 : Int32) (gR_at r_1.2) r_3 hr_3) (cw_X3_refuse hts wi_358 ⟨Nat.le_of_ble_eq_true rfl, Nat.le_of_ble_eq_true rfl⟩) hK hP hD hS [0] [1] rfl rfl rfl (by decide) rfl va_Pnil dj_nil (va_recv hK.1 hP (ci := 1) (q0 := 0) rfl rfl) rfl hl.1 rfl (Nat.le_of_ble_eq_true rfl) dX3_expect_15 ⟨Nat.zero_le _, Nat.zero_le _⟩ (fun H locs hP hD hS => ?_)
    refine lv_if_eq (tgt := 25) hx hb dX3_expect_18 (by decide) (fun c_4 => ?_) (fun c_4 => ?_)
    · rw [if_pos (c_4)] at hf
      refine lv_iconst (v := 0) hx hb dX3_expect_25 (by decide) ?_
      cases hf
      exact W.zret hx hb hr (by decide) (fun t ht hW => ⟨⟨_, (), rfl, rfl, toT ht hP⟩, hS.F ht⟩) hS.2.2 dX3_expect_26 hlocks
    · rw [if_neg (c_4)] at hf
      exact b_X3_expect_21 qD qL qSm zL C0  r_3.2 H locs ls hP hD hS (lv_sub hl [] rfl) hf

set_option maxRecDepth 100000 in
theorem m_X3_expect (l : Launch) (G : va_G) (cA : Nat → ClassId) (qD : Nat → Nat) (qL : Nat → Nat) (qSm : Nat → Nat) (zL : LineS) (zD : RdS) (a1 : Int32) (res : Int32 × RdS) (hf : f_X3_expect zL zD a1 = some res) : MWi l yX3_expect (.code yX3_expect cX3_expect 2 (some .boolean) :: wd) rm_X3_expect G cA [.ref (qD 0), .int a1] ((wRd qD qL qSm zD)) ((wLine cA qL zL)) ((wRd qD qL qSm res.2)) res.1 := by
  refine Met.ofW (cc := cX3_expect) (maxL := 2) (ret := (some .boolean)) (by decide) rfl ?_
  intro p e s m args below meth c s₁ B hml hv
  obtain ⟨rfl, hK, hP, hD0, hR, hRA⟩ := hv
  have C0 : Amb p s m ([.ref (qD 0), .int a1] : List Value).toArray meth c cX3_expect RX3 2 (some .boolean) G cA (adr ((wRd qD qL qSm zD))) ((wLine cA qL zL)) := ⟨B.exec, B.bytes, B.returns, hml, findClass_of_methodNamed B.named, fun w h => atoms_spec (ws := (.code yX3_expect cX3_expect 2 (some .boolean) :: wd)) B.pre w (List.mem_cons_of_mem _ h), B.notSynchronized, hK, hR, hRA⟩
  have hl := lv_entry ([.ref (qD 0), .int a1]) (n := 2) (Nat.le_of_ble_eq_true rfl)
  rw [lg_entry_eq]
  generalize (lg_sl ([.ref (qD 0), .int a1]) ++ List.replicate (2 - (lg_sl ([.ref (qD 0), .int a1])).length) Slot.unset).toArray = ls at hl ⊢
  have hl : lv_has ls 2 [(0, .ref (qD 0)), (1, .int a1)] := hl
  exact b_X3_expect_0 (W9 := ((wRd qD qL qSm zD))) qD qL qSm zL C0 zD a1 s.heap [] ls hP (adr.self hD0) va_S.rf hl hf
theorem cw_X3_expect {R : Room} {s : State} {args : Array Value} {own : String} {index : Nat} (ht : ∀ w ∈ wd, w.before args s = true) (hlink : Cond.methodLink own index yX3_expect ∈ wd) (hR : rm_X3_expect.frames + 1 ≤ R.frames ∧ 8 + (2 + 11) + rm_X3_expect.locals ≤ R.locals) : CallW R s args own RX3 index yX3_expect cX3_expect 2 (some .boolean) (.code yX3_expect cX3_expect 2 (some .boolean) :: wd) rm_X3_expect 0 0 1 := cwV9 1 ht wi_381 wi_380 wi_10 wi_58 hlink (by decide +kernel) rfl rfl hR
def rm_X3_readNumber : Room := { frames := 1, cells := 0, slots := 0, locals := 22 }
def f_X3_readNumber_107 (zL : LineS) (zD : RdS) (x3 : Int32) : Option (Int32 × RdS) := (f_X3_refuse zD (-3 : Int32) x3).bind fun r_1 => some ((-1 : Int32), r_1.2)
set_option maxHeartbeats 4000000 in
set_option maxRecDepth 100000 in
theorem b_X3_readNumber_107 {p : Program} {l : Launch} {e : Env} {s : State} {m : MethodId} {args : Array Value} {below : List Frame} {meth : Method} {c : Code} {G : va_G} {cA : Nat → ClassId} {W9 : va_W} (qD : Nat → Nat) (qL : Nat → Nat) (qSm : Nat → Nat) (zL : LineS) (C0 : Amb p s m args meth c cX3_readNumber RX3 6 (some .int) G cA (adr W9) ((wLine cA qL zL))) {res : Int32 × RdS} : ∀ (zD : RdS) (x3 : Int32) (H : Heap) (locs : List Loc) (ls : Array Slot), va_P G vwCl ((wRd qD qL qSm zD)) H → va_D (adr W9) ((wRd qD qL qSm zD)) → va_S (adr W9) s.heap H locs → lv_has ls 6 [(0, .ref (qD 0)), (3, .int x3)] → f_X3_readNumber_107 zL zD x3 = some res → W p l e rm_X3_readNumber s m args below meth c H locs 0 0 (MQ below (qWi G W9 ((wRd qD qL qSm res.2)) res.1) args s 0 0 (adr W9)) (F0 m 107 ls []) := by
  obtain ⟨hx, hb, hr, hml, hown, hts, hlocks, hK, hR, hRA⟩ := id C0
  intro zD x3 H locs ls hP hD hS hl hf
  unfold f_X3_readNumber_107 at hf
  refine lv_aload_n hx hb dX3_readNumber_107 rfl (lv_at hl 0 rfl) ?_
  refine lv_bipush (v := (-3 : Int32)) hx hb dX3_readNumber_108 (by decide) ?_
  refine lv_iload_n hx hb dX3_readNumber_110 rfl (lv_at hl 1 rfl) ?_
  obtain ⟨r_1, hr_1, hf⟩ := obd hf
  refine cWiV (As := [.int (-3 : Int32), .int x3]) (rest := []) (W1 := ((wRd qD qL qSm r_1.2))) ⟨hx, hb, hml, hown, hts⟩ (m_X3_refuse l G cA qD qL qSm zD (-3 : Int32) x3 r_1 hr_1) (cw_X3_refuse hts wi_358 ⟨Nat.le_of_ble_eq_true rfl, Nat.le_of_ble_eq_true rfl⟩) hK hP hD hS [0] [1] rfl rfl rfl (by decide) rfl va_Pnil dj_nil (va_recv hK.1 hP (ci := 1) (q0 := 0) rfl rfl) rfl hl.1 rfl (Nat.le_of_ble_eq_true rfl) dX3_readNumber_111 ⟨Nat.zero_le _, Nat.zero_le _⟩ (fun H locs hP hD hS => ?_)
  refine lv_pop hx hb dX3_readNumber_114 rfl ?_
  refine lv_iconst (v := (-1)) hx hb dX3_readNumber_115 (by decide) ?_
  cases hf
  exact W.iret hx hb hr (fun t ht hW => ⟨⟨_, (), rfl, rfl, toT ht hP⟩, hS.F ht⟩) hS.2.2 dX3_readNumber_116 hlocks
def f_X3_readNumber_95 (zL : LineS) (zD : RdS) (x1 : Int32) (x2 : Int32) (x3 : Int32) (x4 : Int32) : Option (Int32 × RdS) := if x4 < x1 then f_X3_readNumber_107 zL zD x3 else if x4 ≤ x2 then some (x4, zD) else f_X3_readNumber_107 zL zD x3
set_option maxHeartbeats 4000000 in
set_option maxRecDepth 100000 in
theorem b_X3_readNumber_95 {p : Program} {l : Launch} {e : Env} {s : State} {m : MethodId} {args : Array Value} {below : List Frame} {meth : Method} {c : Code} {G : va_G} {cA : Nat → ClassId} {W9 : va_W} (qD : Nat → Nat) (qL : Nat → Nat) (qSm : Nat → Nat) (zL : LineS) (C0 : Amb p s m args meth c cX3_readNumber RX3 6 (some .int) G cA (adr W9) ((wLine cA qL zL))) {res : Int32 × RdS} : ∀ (zD : RdS) (x1 : Int32) (x2 : Int32) (x3 : Int32) (x4 : Int32) (H : Heap) (locs : List Loc) (ls : Array Slot), va_P G vwCl ((wRd qD qL qSm zD)) H → va_D (adr W9) ((wRd qD qL qSm zD)) → va_S (adr W9) s.heap H locs → lv_has ls 6 [(0, .ref (qD 0)), (1, .int x1), (2, .int x2), (3, .int x3), (4, .int x4)] → f_X3_readNumber_95 zL zD x1 x2 x3 x4 = some res → W p l e rm_X3_readNumber s m args below meth c H locs 0 0 (MQ below (qWi G W9 ((wRd qD qL qSm res.2)) res.1) args s 0 0 (adr W9)) (F0 m 95 ls []) := by
  obtain ⟨hx, hb, hr, hml, hown, hts, hlocks, hK, hR, hRA⟩ := id C0
  intro zD x1 x2 x3 x4 H locs ls hP hD hS hl hf
  unfold f_X3_readNumber_95 at hf
  refine lv_iload hx hb dX3_readNumber_95 (lv_at hl 4 rfl) ?_
  refine lv_iload_n hx hb dX3_readNumber_97 rfl (lv_at hl 1 rfl) ?_
  refine lv_icmp_lt (tgt := 107) hx hb dX3_readNumber_98 (by decide) (fun c_1 => ?_) (fun c_1 => ?_)
  · rw [if_pos (c_1)] at hf
    exact b_X3_readNumber_107 qD qL qSm zL C0  zD x3 H locs ls hP hD hS (lv_sub hl [0, 3] rfl) hf
  · rw [if_neg (c_1)] at hf
    refine lv_iload hx hb dX3_readNumber_101 (lv_at hl 4 rfl) ?_
    refine lv_iload_n hx hb dX3_readNumber_103 rfl (lv_at hl 2 rfl) ?_
    refine lv_icmp_le (tgt := 117) hx hb dX3_readNumber_104 (by decide) (fun c_2 => ?_) (fun c_2 => ?_)
    · rw [if_pos (c_2)] at hf
      refine lv_iload hx hb dX3_readNumber_117 (lv_at hl 4 rfl) ?_
      cases hf
      exact W.iret hx hb hr (fun t ht hW => ⟨⟨_, (), rfl, rfl, toT ht hP⟩, hS.F ht⟩) hS.2.2 dX3_readNumber_119 hlocks
    · rw [if_neg (c_2)] at hf
      exact b_X3_readNumber_107 qD qL qSm zL C0  zD x3 H locs ls hP hD hS (lv_sub hl [0, 3] rfl) hf
def f_X3_readNumber_34 (zL : LineS) : Nat → RdS → Int32 → Int32 → Int32 → Int32 → Int32 → Option (Int32 × RdS)
  | 0, _, _, _, _, _, _ => none
  | fu + 1, zD, x1, x2, x3, x4, x5 => if (3 : Int32) ≤ x5 then f_X3_readNumber_95 zL zD x1 x2 x3 x4 else (f_X1_charAt zL (gR_at zD)).bind fun r_2 => (f_X3_isDigit r_2).bind fun r_3 => if r_3 = 0 then f_X3_readNumber_95 zL zD x1 x2 x3 x4 else (f_X1_charAt zL (gR_at zD)).bind fun r_5 => (some ((((10 : Int32) * x4) + (r_5 - (48 : Int32))))).bind fun y_6 => f_X3_readNumber_34 zL fu (uR_at zD ((gR_at zD) + (1 : Int32))) x1 x2 x3 y_6 (x5 + 1)
set_option maxHeartbeats 4000000 in
set_option maxRecDepth 100000 in
theorem b_X3_readNumber_34 {p : Program} {l : Launch} {e : Env} {s : State} {m : MethodId} {args : Array Value} {below : List Frame} {meth : Method} {c : Code} {G : va_G} {cA : Nat → ClassId} {W9 : va_W} (qD : Nat → Nat) (qL : Nat → Nat) (qSm : Nat → Nat) (zL : LineS) (C0 : Amb p s m args meth c cX3_readNumber RX3 6 (some .int) G cA (adr W9) ((wLine cA qL zL))) {res : Int32 × RdS} : ∀ (fu : Nat) (zD : RdS) (x1 : Int32) (x2 : Int32) (x3 : Int32) (x4 : Int32) (x5 : Int32) (H : Heap) (locs : List Loc) (ls : Array Slot), va_P G vwCl ((wRd qD qL qSm zD)) H → va_D (adr W9) ((wRd qD qL qSm zD)) → va_S (adr W9) s.heap H locs → lv_has ls 6 [(0, .ref (qD 0)), (1, .int x1), (2, .int x2), (3, .int x3), (4, .int x4), (5, .int x5)] → f_X3_readNumber_34 zL fu zD x1 x2 x3 x4 x5 = some res → W p l e rm_X3_readNumber s m args below meth c H locs 0 0 (MQ below (qWi G W9 ((wRd qD qL qSm res.2)) res.1) args s 0 0 (adr W9)) (F0 m 34 ls []) := by
  obtain ⟨hx, hb, hr, hml, hown, hts, hlocks, hK, hR, hRA⟩ := id C0
  intro fu
  induction fu with
  | zero =>
    intro zD x1 x2 x3 x4 x5 H locs ls hP hD hS hl hf
    rw [f_X3_readNumber_34] at hf
    cases hf
  | succ fu ih =>
    intro zD x1 x2 x3 x4 x5 H locs ls hP hD hS hl hf
    rw [f_X3_readNumber_34] at hf
    refine lv_iload hx hb dX3_readNumber_34 (lv_at hl 5 rfl) ?_
    refine lv_iconst (v := 3) hx hb dX3_readNumber_36 (by decide) ?_
    refine lv_icmp_ge (tgt := 95) hx hb dX3_readNumber_37 (by decide) (fun c_1 => ?_) (fun c_1 => ?_)
    · rw [if_pos (c_1)] at hf
      exact b_X3_readNumber_95 qD qL qSm zL C0  zD x1 x2 x3 x4 H locs ls hP hD hS (lv_sub hl [0, 1, 2, 3, 4] rfl) hf
    · rw [if_neg (c_1)] at hf
      refine lv_aload_n hx hb dX3_readNumber_40 rfl (lv_at hl 0 rfl) ?_
      refine va_get (D := G) (ci := 1) (v := .ref (qL 0)) (C := RX3) (T := TX3) (N := 10) hx hb hts fin_X3 hown hK.1 hP 0 rfl rfl 0 (by decide) (hts _ wi_127) (fun _ h9 => h9) rfl dX3_readNumber_41 ?_
      refine lv_aload_n hx hb dX3_readNumber_44 rfl (lv_at hl 0 rfl) ?_
      refine va_get (D := G) (ci := 1) (v := .int (gR_at zD)) (C := RX3) (T := TX3) (N := 10) hx hb hts fin_X3 hown hK.1 hP 0 rfl rfl 2 (by decide) (hts _ wi_129) (fun _ h9 => h9) rfl dX3_readNumber_45 ?_
      obtain ⟨r_2, hr_2, hf⟩ := obd hf
      refine cRiV (As := [.int (gR_at zD)]) (rest := []) ⟨hx, hb, hml, hown, hts⟩ (m_X1_charAt l G cA qL zL (gR_at zD) r_2 hr_2) (cw_X1_charAt hts wi_362 ⟨Nat.le_of_ble_eq_true rfl, Nat.le_of_ble_eq_true rfl⟩) hK (pk (roP hR hRA hS) [0, 1] rfl) (va_recv hK.1 (roP hR hRA hS) (ci := 0) (q0 := 0) rfl rfl) rfl hl.1 rfl (Nat.le_of_ble_eq_true rfl) dX3_readNumber_48 ⟨Nat.zero_le _, Nat.zero_le _⟩ ?_
      obtain ⟨r_3, hr_3, hf⟩ := obd hf
      refine cRiS (As := [.int r_2]) (rest := []) ⟨hx, hb, hml, hown, hts⟩ (m_X3_isDigit l G cA r_2 r_3 hr_3) (cw_X3_isDigit hts wi_351 ⟨Nat.le_of_ble_eq_true rfl, Nat.le_of_ble_eq_true rfl⟩) hK va_Pnil rfl hl.1 rfl (Nat.le_of_ble_eq_true rfl) dX3_readNumber_51 ⟨Nat.zero_le _, Nat.zero_le _⟩ ?_
      refine lv_if_eq (tgt := 95) hx hb dX3_readNumber_54 (by decide) (fun c_4 => ?_) (fun c_4 => ?_)
      · rw [if_pos (c_4)] at hf
        exact b_X3_readNumber_95 qD qL qSm zL C0  zD x1 x2 x3 x4 H locs ls hP hD hS (lv_sub hl [0, 1, 2, 3, 4] rfl) hf
      · rw [if_neg (c_4)] at hf
        refine lv_bipush (v := (10 : Int32)) hx hb dX3_readNumber_57 (by decide) ?_
        refine lv_iload hx hb dX3_readNumber_59 (lv_at hl 4 rfl) ?_
        refine lv_imul hx hb dX3_readNumber_61 ?_
        refine lv_aload_n hx hb dX3_readNumber_62 rfl (lv_at hl 0 rfl) ?_
        refine va_get (D := G) (ci := 1) (v := .ref (qL 0)) (C := RX3) (T := TX3) (N := 10) hx hb hts fin_X3 hown hK.1 hP 0 rfl rfl 0 (by decide) (hts _ wi_127) (fun _ h9 => h9) rfl dX3_readNumber_63 ?_
        refine lv_aload_n hx hb dX3_readNumber_66 rfl (lv_at hl 0 rfl) ?_
        refine va_get (D := G) (ci := 1) (v := .int (gR_at zD)) (C := RX3) (T := TX3) (N := 10) hx hb hts fin_X3 hown hK.1 hP 0 rfl rfl 2 (by decide) (hts _ wi_129) (fun _ h9 => h9) rfl dX3_readNumber_67 ?_
        obtain ⟨r_5, hr_5, hf⟩ := obd hf
        refine cRiV (As := [.int (gR_at zD)]) (rest := [.int ((10 : Int32) * x4)]) ⟨hx, hb, hml, hown, hts⟩ (m_X1_charAt l G cA qL zL (gR_at zD) r_5 hr_5) (cw_X1_charAt hts wi_362 ⟨Nat.le_of_ble_eq_true rfl, Nat.le_of_ble_eq_true rfl⟩) hK (pk (roP hR hRA hS) [0, 1] rfl) (va_recv hK.1 (roP hR hRA hS) (ci := 0) (q0 := 0) rfl rfl) rfl hl.1 rfl (Nat.le_of_ble_eq_true rfl) dX3_readNumber_70 ⟨Nat.zero_le _, Nat.zero_le _⟩ ?_
        refine lv_bipush (v := (48 : Int32)) hx hb dX3_readNumber_73 (by decide) ?_
        refine lv_isub hx hb dX3_readNumber_75 ?_
        refine lv_iadd hx hb dX3_readNumber_76 ?_
        obtain ⟨y_6, hq, hf⟩ := obd hf
        have hy_6 : (((10 : Int32) * x4) + (r_5 - (48 : Int32))) = y_6 := Option.some.inj hq
        rw [hy_6]
        refine lv_istore (lv' := [(4, .int y_6), (0, .ref (qD 0)), (1, .int x1), (2, .int x2), (3, .int x3), (5, .int x5)]) hx hb dX3_readNumber_77 hl (by decide) rfl (fun ls hl => ?_)
        refine lv_aload_n hx hb dX3_readNumber_79 rfl (lv_at hl 1 rfl) ?_
        refine lv_dup hx hb dX3_readNumber_80 rfl ?_
        refine va_get (D := G) (ci := 1) (v := .int (gR_at zD)) (C := RX3) (T := TX3) (N := 10) hx hb hts fin_X3 hown hK.1 hP 0 rfl rfl 2 (by decide) (hts _ wi_129) (fun _ h9 => h9) rfl dX3_readNumber_81 ?_
        refine lv_iconst (v := 1) hx hb dX3_readNumber_84 (by decide) ?_
        refine lv_iadd hx hb dX3_readNumber_85 ?_
        refine va_put (D := G) (ci := 1) (v := .int ((gR_at zD) + (1 : Int32))) (ty := .int) (C := RX3) (T := TX3) (N := 10) hx hb hts fin_X3 tyX3 tyX3_ok nmX3 hown hK.1 hP hD hS 0 rfl rfl 2 (by decide) (hts _ wi_129) (fun _ h9 => h9) rfl (by decide +kernel) rfl rfl (Nat.le_of_ble_eq_true rfl) dX3_readNumber_86 (fun H locs hP hD hS => ?_)
        have hP := sR_at_P hP
        have hD := sR_at_D hD
        refine lv_iinc (v := (x5 + 1)) (lv' := [(5, .int (x5 + 1)), (4, .int y_6), (0, .ref (qD 0)), (1, .int x1), (2, .int x2), (3, .int x3)]) hx hb dX3_readNumber_89 hl (k := 5) rfl rfl (by decide) rfl (fun ls hl => ?_)
        refine lv_goto (tgt := 34) hx hb dX3_readNumber_92 (by decide) ?_
        exact ih (uR_at zD ((gR_at zD) + (1 : Int32))) x1 x2 x3 y_6 (x5 + 1) H locs ls hP hD hS (lv_sub hl [2, 3, 4, 5, 1, 0] rfl) hf
def f_X3_readNumber (zL : LineS) (zD : RdS) (a1 : Int32) (a2 : Int32) : Option (Int32 × RdS) := (f_X3_next zL zD).bind fun r_1 => (f_X3_isDigit r_1.1).bind fun r_2 => if ¬ r_2 = 0 then (some ((gR_at r_1.2))).bind fun y_4 => f_X3_readNumber_34 zL fuel r_1.2 a1 a2 y_4 (0 : Int32) (0 : Int32) else (f_X3_refuse r_1.2 (-2 : Int32) (gR_at r_1.2)).bind fun r_5 => some ((-1 : Int32), r_5.2)
set_option maxHeartbeats 4000000 in
set_option maxRecDepth 100000 in
theorem b_X3_readNumber_0 {p : Program} {l : Launch} {e : Env} {s : State} {m : MethodId} {args : Array Value} {below : List Frame} {meth : Method} {c : Code} {G : va_G} {cA : Nat → ClassId} {W9 : va_W} (qD : Nat → Nat) (qL : Nat → Nat) (qSm : Nat → Nat) (zL : LineS) (C0 : Amb p s m args meth c cX3_readNumber RX3 6 (some .int) G cA (adr W9) ((wLine cA qL zL))) {res : Int32 × RdS} : ∀ (zD : RdS) (a1 : Int32) (a2 : Int32) (H : Heap) (locs : List Loc) (ls : Array Slot), va_P G vwCl ((wRd qD qL qSm zD)) H → va_D (adr W9) ((wRd qD qL qSm zD)) → va_S (adr W9) s.heap H locs → lv_has ls 6 [(0, .ref (qD 0)), (1, .int a1), (2, .int a2)] → f_X3_readNumber zL zD a1 a2 = some res → W p l e rm_X3_readNumber s m args below meth c H locs 0 0 (MQ below (qWi G W9 ((wRd qD qL qSm res.2)) res.1) args s 0 0 (adr W9)) (F0 m 0 ls []) := by
  obtain ⟨hx, hb, hr, hml, hown, hts, hlocks, hK, hR, hRA⟩ := id C0
  intro zD a1 a2 H locs ls hP hD hS hl hf
  unfold f_X3_readNumber at hf
  refine lv_aload_n hx hb dX3_readNumber_0 rfl (lv_at hl 0 rfl) ?_
  obtain ⟨r_1, hr_1, hf⟩ := obd hf
  refine cWiV (As := []) (rest := []) (W1 := ((wRd qD qL qSm r_1.2))) ⟨hx, hb, hml, hown, hts⟩ (m_X3_next l G cA qD qL qSm zL zD r_1 hr_1) (cw_X3_next hts wi_339 ⟨Nat.le_of_ble_eq_true rfl, Nat.le_of_ble_eq_true rfl⟩) hK hP hD hS [0] [1] rfl rfl rfl (by decide) rfl (pk (roP hR hRA hS) [0, 1] rfl) (dj_ro hD hRA [0, 1] (rfl : [0].map _ = _) rfl) (va_recv hK.1 hP (ci := 1) (q0 := 0) rfl rfl) rfl hl.1 rfl (Nat.le_of_ble_eq_true rfl) dX3_readNumber_1 ⟨Nat.zero_le _, Nat.zero_le _⟩ (fun H locs hP hD hS => ?_)
  obtain ⟨r_2, hr_2, hf⟩ := obd hf
  refine cRiS (As := [.int r_1.1]) (rest := []) ⟨hx, hb, hml, hown, hts⟩ (m_X3_isDigit l G cA r_1.1 r_2 hr_2) (cw_X3_isDigit hts wi_351 ⟨Nat.le_of_ble_eq_true rfl, Nat.le_of_ble_eq_true rfl⟩) hK va_Pnil rfl hl.1 rfl (Nat.le_of_ble_eq_true rfl) dX3_readNumber_4 ⟨Nat.zero_le _, Nat.zero_le _⟩ ?_
  refine lv_if_ne (tgt := 23) hx hb dX3_readNumber_7 (by decide) (fun c_3 => ?_) (fun c_3 => ?_)
  · rw [if_pos (c_3)] at hf
    refine lv_aload_n hx hb dX3_readNumber_23 rfl (lv_at hl 0 rfl) ?_
    refine va_get (D := G) (ci := 1) (v := .int (gR_at r_1.2)) (C := RX3) (T := TX3) (N := 10) hx hb hts fin_X3 hown hK.1 hP 0 rfl rfl 2 (by decide) (hts _ wi_129) (fun _ h9 => h9) rfl dX3_readNumber_24 ?_
    obtain ⟨y_4, hq, hf⟩ := obd hf
    have hy_4 : (gR_at r_1.2) = y_4 := Option.some.inj hq
    rw [hy_4]
    refine lv_istore_n (lv' := [(3, .int y_4), (0, .ref (qD 0)), (1, .int a1), (2, .int a2)]) hx hb dX3_readNumber_27 rfl hl (by decide) rfl (fun ls hl => ?_)
    refine lv_iconst (v := 0) hx hb dX3_readNumber_28 (by decide) ?_
    refine lv_istore (lv' := [(4, .int (0 : Int32)), (3, .int y_4), (0, .ref (qD 0)), (1, .int a1), (2, .int a2)]) hx hb dX3_readNumber_29 hl (by decide) rfl (fun ls hl => ?_)
    refine lv_iconst (v := 0) hx hb dX3_readNumber_31 (by decide) ?_
    refine lv_istore (lv' := [(5, .int (0 : Int32)), (4, .int (0 : Int32)), (3, .int y_4), (0, .ref (qD 0)), (1, .int a1), (2, .int a2)]) hx hb dX3_readNumber_32 hl (by decide) rfl (fun ls hl => ?_)
    exact b_X3_readNumber_34 qD qL qSm zL C0  fuel r_1.2 a1 a2 y_4 (0 : Int32) (0 : Int32) H locs ls hP hD hS (lv_sub hl [3, 4, 5, 2, 1, 0] rfl) hf
  · rw [if_neg (not_not_intro c_3)] at hf
    refine lv_aload_n hx hb dX3_readNumber_10 rfl (lv_at hl 0 rfl) ?_
    refine lv_bipush (v := (-2 : Int32)) hx hb dX3_readNumber_11 (by decide) ?_
    refine lv_aload_n hx hb dX3_readNumber_13 rfl (lv_at hl 0 rfl) ?_
    refine va_get (D := G) (ci := 1) (v := .int (gR_at r_1.2)) (C := RX3) (T := TX3) (N := 10) hx hb hts fin_X3 hown hK.1 hP 0 rfl rfl 2 (by decide) (hts _ wi_129) (fun _ h9 => h9) rfl dX3_readNumber_14 ?_
    obtain ⟨r_5, hr_5, hf⟩ := obd hf
    refine cWiV (As := [.int (-2 : Int32), .int (gR_at r_1.2)]) (rest := []) (W1 := ((wRd qD qL qSm r_5.2))) ⟨hx, hb, hml, hown, hts⟩ (m_X3_refuse l G cA qD qL qSm r_1.2 (-2 : Int32) (gR_at r_1.2) r_5 hr_5) (cw_X3_refuse hts wi_358 ⟨Nat.le_of_ble_eq_true rfl, Nat.le_of_ble_eq_true rfl⟩) hK hP hD hS [0] [1] rfl rfl rfl (by decide) rfl va_Pnil dj_nil (va_recv hK.1 hP (ci := 1) (q0 := 0) rfl rfl) rfl hl.1 rfl (Nat.le_of_ble_eq_true rfl) dX3_readNumber_17 ⟨Nat.zero_le _, Nat.zero_le _⟩ (fun H locs hP hD hS => ?_)
    refine lv_pop hx hb dX3_readNumber_20 rfl ?_
    refine lv_iconst (v := (-1)) hx hb dX3_readNumber_21 (by decide) ?_
    cases hf
    exact W.iret hx hb hr (fun t ht hW => ⟨⟨_, (), rfl, rfl, toT ht hP⟩, hS.F ht⟩) hS.2.2 dX3_readNumber_22 hlocks

set_option maxRecDepth 100000 in
theorem m_X3_readNumber (l : Launch) (G : va_G) (cA : Nat → ClassId) (qD : Nat → Nat) (qL : Nat → Nat) (qSm : Nat → Nat) (zL : LineS) (zD : RdS) (a1 : Int32) (a2 : Int32) (res : Int32 × RdS) (hf : f_X3_readNumber zL zD a1 a2 = some res) : MWi l yX3_readNumber (.code yX3_readNumber cX3_readNumber 6 (some .int) :: wd) rm_X3_readNumber G cA [.ref (qD 0), .int a1, .int a2] ((wRd qD qL qSm zD)) ((wLine cA qL zL)) ((wRd qD qL qSm res.2)) res.1 := by
  refine Met.ofW (cc := cX3_readNumber) (maxL := 6) (ret := (some .int)) (by decide) rfl ?_
  intro p e s m args below meth c s₁ B hml hv
  obtain ⟨rfl, hK, hP, hD0, hR, hRA⟩ := hv
  have C0 : Amb p s m ([.ref (qD 0), .int a1, .int a2] : List Value).toArray meth c cX3_readNumber RX3 6 (some .int) G cA (adr ((wRd qD qL qSm zD))) ((wLine cA qL zL)) := ⟨B.exec, B.bytes, B.returns, hml, findClass_of_methodNamed B.named, fun w h => atoms_spec (ws := (.code yX3_readNumber cX3_readNumber 6 (some .int) :: wd)) B.pre w (List.mem_cons_of_mem _ h), B.notSynchronized, hK, hR, hRA⟩
  have hl := lv_entry ([.ref (qD 0), .int a1, .int a2]) (n := 6) (Nat.le_of_ble_eq_true rfl)
  rw [lg_entry_eq]
  generalize (lg_sl ([.ref (qD 0), .int a1, .int a2]) ++ List.replicate (6 - (lg_sl ([.ref (qD 0), .int a1, .int a2])).length) Slot.unset).toArray = ls at hl ⊢
  have hl : lv_has ls 6 [(0, .ref (qD 0)), (1, .int a1), (2, .int a2)] := hl
  exact b_X3_readNumber_0 (W9 := ((wRd qD qL qSm zD))) qD qL qSm zL C0 zD a1 a2 s.heap [] ls hP (adr.self hD0) va_S.rf hl hf
theorem cw_X3_readNumber {R : Room} {s : State} {args : Array Value} {own : String} {index : Nat} (ht : ∀ w ∈ wd, w.before args s = true) (hlink : Cond.methodLink own index yX3_readNumber ∈ wd) (hR : rm_X3_readNumber.frames + 1 ≤ R.frames ∧ 8 + (6 + 11) + rm_X3_readNumber.locals ≤ R.locals) : CallW R s args own RX3 index yX3_readNumber cX3_readNumber 6 (some .int) (.code yX3_readNumber cX3_readNumber 6 (some .int) :: wd) rm_X3_readNumber 0 0 2 := cwV9 2 ht wi_357 wi_356 wi_5 wi_58 hlink (by decide +kernel) rfl rfl hR
def rm_X3_readMultiple : Room := { frames := 2, cells := 0, slots := 0, locals := 47 }
def f_X3_readMultiple_45 (zL : LineS) (zD : RdS) (v1 : Int32) : Option (Int32 × RdS) := some ((1 : Int32), (uR_arg zD v1))
set_option maxHeartbeats 4000000 in
set_option maxRecDepth 100000 in
theorem b_X3_readMultiple_45 {p : Program} {l : Launch} {e : Env} {s : State} {m : MethodId} {args : Array Value} {below : List Frame} {meth : Method} {c : Code} {G : va_G} {cA : Nat → ClassId} {W9 : va_W} (qD : Nat → Nat) (qL : Nat → Nat) (qSm : Nat → Nat) (zL : LineS) (C0 : Amb p s m args meth c cX3_readMultiple RX3 3 (some .boolean) G cA (adr W9) ((wLine cA qL zL))) {res : Int32 × RdS} : ∀ (zD : RdS) (v1 : Int32) (H : Heap) (locs : List Loc) (ls : Array Slot), va_P G vwCl ((wRd qD qL qSm zD)) H → va_D (adr W9) ((wRd qD qL qSm zD)) → va_S (adr W9) s.heap H locs → lv_has ls 3 [] → f_X3_readMultiple_45 zL zD v1 = some res → W p l e rm_X3_readMultiple s m args below meth c H locs 0 0 (MQ below (qWi G W9 ((wRd qD qL qSm res.2)) res.1) args s 0 0 (adr W9)) (F0 m 45 ls [.int v1, .ref (qD 0)]) := by
  obtain ⟨hx, hb, hr, hml, hown, hts, hlocks, hK, hR, hRA⟩ := id C0
  intro zD v1 H locs ls hP hD hS hl hf
  unfold f_X3_readMultiple_45 at hf
  refine va_put (D := G) (ci := 1) (v := .int v1) (ty := .int) (C := RX3) (T := TX3) (N := 10) hx hb hts fin_X3 tyX3 tyX3_ok nmX3 hown hK.1 hP hD hS 0 rfl rfl 9 (by decide) (hts _ wi_136) (fun _ h9 => h9) rfl (by decide +kernel) rfl rfl (Nat.le_of_ble_eq_true rfl) dX3_readMultiple_45 (fun H locs hP hD hS => ?_)
  have hP := sR_arg_P hP
  have hD := sR_arg_D hD
  refine lv_iconst (v := 1) hx hb dX3_readMultiple_48 (by decide) ?_
  cases hf
  exact W.zret hx hb hr (by decide) (fun t ht hW => ⟨⟨_, (), rfl, rfl, toT ht hP⟩, hS.F ht⟩) hS.2.2 dX3_readMultiple_49 hlocks
def f_X3_readMultiple_34 (zL : LineS) (zD : RdS) (x1 : Int32) (x2 : Int32) : Option (Int32 × RdS) := if x1 = 0 then f_X3_readMultiple_45 zL zD x2 else f_X3_readMultiple_45 zL zD (-x2)
set_option maxHeartbeats 4000000 in
set_option maxRecDepth 100000 in
theorem b_X3_readMultiple_34 {p : Program} {l : Launch} {e : Env} {s : State} {m : MethodId} {args : Array Value} {below : List Frame} {meth : Method} {c : Code} {G : va_G} {cA : Nat → ClassId} {W9 : va_W} (qD : Nat → Nat) (qL : Nat → Nat) (qSm : Nat → Nat) (zL : LineS) (C0 : Amb p s m args meth c cX3_readMultiple RX3 3 (some .boolean) G cA (adr W9) ((wLine cA qL zL))) {res : Int32 × RdS} : ∀ (zD : RdS) (x1 : Int32) (x2 : Int32) (H : Heap) (locs : List Loc) (ls : Array Slot), va_P G vwCl ((wRd qD qL qSm zD)) H → va_D (adr W9) ((wRd qD qL qSm zD)) → va_S (adr W9) s.heap H locs → lv_has ls 3 [(0, .ref (qD 0)), (1, .int x1), (2, .int x2)] → f_X3_readMultiple_34 zL zD x1 x2 = some res → W p l e rm_X3_readMultiple s m args below meth c H locs 0 0 (MQ below (qWi G W9 ((wRd qD qL qSm res.2)) res.1) args s 0 0 (adr W9)) (F0 m 34 ls []) := by
  obtain ⟨hx, hb, hr, hml, hown, hts, hlocks, hK, hR, hRA⟩ := id C0
  intro zD x1 x2 H locs ls hP hD hS hl hf
  unfold f_X3_readMultiple_34 at hf
  refine lv_aload_n hx hb dX3_readMultiple_34 rfl (lv_at hl 0 rfl) ?_
  refine lv_iload_n hx hb dX3_readMultiple_35 rfl (lv_at hl 1 rfl) ?_
  refine lv_if_eq (tgt := 44) hx hb dX3_readMultiple_36 (by decide) (fun c_1 => ?_) (fun c_1 => ?_)
  · rw [if_pos (c_1)] at hf
    refine lv_iload_n hx hb dX3_readMultiple_44 rfl (lv_at hl 2 rfl) ?_
    exact b_X3_readMultiple_45 qD qL qSm zL C0  zD x2 H locs ls hP hD hS (lv_sub hl [] rfl) hf
  · rw [if_neg (c_1)] at hf
    refine lv_iload_n hx hb dX3_readMultiple_39 rfl (lv_at hl 2 rfl) ?_
    refine lv_ineg hx hb dX3_readMultiple_40 ?_
    refine lv_goto (tgt := 45) hx hb dX3_readMultiple_41 (by decide) ?_
    exact b_X3_readMultiple_45 qD qL qSm zL C0  zD (-x2) H locs ls hP hD hS (lv_sub hl [] rfl) hf
def f_X3_readMultiple (zL : LineS) (zD : RdS) : Option (Int32 × RdS) := (f_X3_takes zL zD (45 : Int32)).bind fun r_1 => (f_X3_next zL r_1.2).bind fun r_2 => (f_X3_isDigit r_2.1).bind fun r_3 => if r_3 = 0 then f_X3_readMultiple_34 zL r_2.2 r_1.1 (1 : Int32) else (f_X3_readNumber zL r_2.2 (0 : Int32) (9 : Int32)).bind fun r_5 => if ¬ r_5.1 = (-1 : Int32) then f_X3_readMultiple_34 zL r_5.2 r_1.1 r_5.1 else some ((0 : Int32), r_5.2)
set_option maxHeartbeats 4000000 in
set_option maxRecDepth 100000 in
theorem b_X3_readMultiple_0 {p : Program} {l : Launch} {e : Env} {s : State} {m : MethodId} {args : Array Value} {below : List Frame} {meth : Method} {c : Code} {G : va_G} {cA : Nat → ClassId} {W9 : va_W} (qD : Nat → Nat) (qL : Nat → Nat) (qSm : Nat → Nat) (zL : LineS) (C0 : Amb p s m args meth c cX3_readMultiple RX3 3 (some .boolean) G cA (adr W9) ((wLine cA qL zL))) {res : Int32 × RdS} : ∀ (zD : RdS) (H : Heap) (locs : List Loc) (ls : Array Slot), va_P G vwCl ((wRd qD qL qSm zD)) H → va_D (adr W9) ((wRd qD qL qSm zD)) → va_S (adr W9) s.heap H locs → lv_has ls 3 [(0, .ref (qD 0))] → f_X3_readMultiple zL zD = some res → W p l e rm_X3_readMultiple s m args below meth c H locs 0 0 (MQ below (qWi G W9 ((wRd qD qL qSm res.2)) res.1) args s 0 0 (adr W9)) (F0 m 0 ls []) := by
  obtain ⟨hx, hb, hr, hml, hown, hts, hlocks, hK, hR, hRA⟩ := id C0
  intro zD H locs ls hP hD hS hl hf
  unfold f_X3_readMultiple at hf
  refine lv_aload_n hx hb dX3_readMultiple_0 rfl (lv_at hl 0 rfl) ?_
  refine lv_bipush (v := (45 : Int32)) hx hb dX3_readMultiple_1 (by decide) ?_
  obtain ⟨r_1, hr_1, hf⟩ := obd hf
  refine cWiV (As := [.int (45 : Int32)]) (rest := []) (W1 := ((wRd qD qL qSm r_1.2))) ⟨hx, hb, hml, hown, hts⟩ (m_X3_takes l G cA qD qL qSm zL zD (45 : Int32) r_1 hr_1) (cw_X3_takes hts wi_335 ⟨Nat.le_of_ble_eq_true rfl, Nat.le_of_ble_eq_true rfl⟩) hK hP hD hS [0] [1] rfl rfl rfl (by decide) rfl (pk (roP hR hRA hS) [0, 1] rfl) (dj_ro hD hRA [0, 1] (rfl : [0].map _ = _) rfl) (va_recv hK.1 hP (ci := 1) (q0 := 0) rfl rfl) rfl hl.1 rfl (Nat.le_of_ble_eq_true rfl) dX3_readMultiple_3 ⟨Nat.zero_le _, Nat.zero_le _⟩ (fun H locs hP hD hS => ?_)
  refine lv_istore_n (lv' := [(1, .int r_1.1), (0, .ref (qD 0))]) hx hb dX3_readMultiple_6 rfl hl (by decide) rfl (fun ls hl => ?_)
  refine lv_iconst (v := 1) hx hb dX3_readMultiple_7 (by decide) ?_
  refine lv_istore_n (lv' := [(2, .int (1 : Int32)), (1, .int r_1.1), (0, .ref (qD 0))]) hx hb dX3_readMultiple_8 rfl hl (by decide) rfl (fun ls hl => ?_)
  refine lv_aload_n hx hb dX3_readMultiple_9 rfl (lv_at hl 2 rfl) ?_
  obtain ⟨r_2, hr_2, hf⟩ := obd hf
  refine cWiV (As := []) (rest := []) (W1 := ((wRd qD qL qSm r_2.2))) ⟨hx, hb, hml, hown, hts⟩ (m_X3_next l G cA qD qL qSm zL r_1.2 r_2 hr_2) (cw_X3_next hts wi_339 ⟨Nat.le_of_ble_eq_true rfl, Nat.le_of_ble_eq_true rfl⟩) hK hP hD hS [0] [1] rfl rfl rfl (by decide) rfl (pk (roP hR hRA hS) [0, 1] rfl) (dj_ro hD hRA [0, 1] (rfl : [0].map _ = _) rfl) (va_recv hK.1 hP (ci := 1) (q0 := 0) rfl rfl) rfl hl.1 rfl (Nat.le_of_ble_eq_true rfl) dX3_readMultiple_10 ⟨Nat.zero_le _, Nat.zero_le _⟩ (fun H locs hP hD hS => ?_)
  obtain ⟨r_3, hr_3, hf⟩ := obd hf
  refine cRiS (As := [.int r_2.1]) (rest := []) ⟨hx, hb, hml, hown, hts⟩ (m_X3_isDigit l G cA r_2.1 r_3 hr_3) (cw_X3_isDigit hts wi_351 ⟨Nat.le_of_ble_eq_true rfl, Nat.le_of_ble_eq_true rfl⟩) hK va_Pnil rfl hl.1 rfl (Nat.le_of_ble_eq_true rfl) dX3_readMultiple_13 ⟨Nat.zero_le _, Nat.zero_le _⟩ ?_
  refine lv_if_eq (tgt := 34) hx hb dX3_readMultiple_16 (by decide) (fun c_4 => ?_) (fun c_4 => ?_)
  · rw [if_pos (c_4)] at hf
    exact b_X3_readMultiple_34 qD qL qSm zL C0  r_2.2 r_1.1 (1 : Int32) H locs ls hP hD hS (lv_sub hl [2, 1, 0] rfl) hf
  · rw [if_neg (c_4)] at hf
    refine lv_aload_n hx hb dX3_readMultiple_19 rfl (lv_at hl 2 rfl) ?_
    refine lv_iconst (v := 0) hx hb dX3_readMultiple_20 (by decide) ?_
    refine lv_bipush (v := (9 : Int32)) hx hb dX3_readMultiple_21 (by decide) ?_
    obtain ⟨r_5, hr_5, hf⟩ := obd hf
    refine cWiV (As := [.int (0 : Int32), .int (9 : Int32)]) (rest := []) (W1 := ((wRd qD qL qSm r_5.2))) ⟨hx, hb, hml, hown, hts⟩ (m_X3_readNumber l G cA qD qL qSm zL r_2.2 (0 : Int32) (9 : Int32) r_5 hr_5) (cw_X3_readNumber hts wi_354 ⟨Nat.le_of_ble_eq_true rfl, Nat.le_of_ble_eq_true rfl⟩) hK hP hD hS [0] [1] rfl rfl rfl (by decide) rfl (pk (roP hR hRA hS) [0, 1] rfl) (dj_ro hD hRA [0, 1] (rfl : [0].map _ = _) rfl) (va_recv hK.1 hP (ci := 1) (q0 := 0) rfl rfl) rfl hl.1 rfl (Nat.le_of_ble_eq_true rfl) dX3_readMultiple_23 ⟨Nat.zero_le _, Nat.zero_le _⟩ (fun H locs hP hD hS => ?_)
    refine lv_istore_n (lv' := [(2, .int r_5.1), (1, .int r_1.1), (0, .ref (qD 0))]) hx hb dX3_readMultiple_26 rfl hl (by decide) rfl (fun ls hl => ?_)
    refine lv_iload_n hx hb dX3_readMultiple_27 rfl (lv_at hl 0 rfl) ?_
    refine lv_iconst (v := (-1)) hx hb dX3_readMultiple_28 (by decide) ?_
    refine lv_icmp_ne (tgt := 34) hx hb dX3_readMultiple_29 (by decide) (fun c_6 => ?_) (fun c_6 => ?_)
    · rw [if_pos (c_6)] at hf
      exact b_X3_readMultiple_34 qD qL qSm zL C0  r_5.2 r_1.1 r_5.1 H locs ls hP hD hS (lv_sub hl [2, 1, 0] rfl) hf
    · rw [if_neg (not_not_intro c_6)] at hf
      refine lv_iconst (v := 0) hx hb dX3_readMultiple_32 (by decide) ?_
      cases hf
      exact W.zret hx hb hr (by decide) (fun t ht hW => ⟨⟨_, (), rfl, rfl, toT ht hP⟩, hS.F ht⟩) hS.2.2 dX3_readMultiple_33 hlocks

set_option maxRecDepth 100000 in
theorem m_X3_readMultiple (l : Launch) (G : va_G) (cA : Nat → ClassId) (qD : Nat → Nat) (qL : Nat → Nat) (qSm : Nat → Nat) (zL : LineS) (zD : RdS) (res : Int32 × RdS) (hf : f_X3_readMultiple zL zD = some res) : MWi l yX3_readMultiple (.code yX3_readMultiple cX3_readMultiple 3 (some .boolean) :: wd) rm_X3_readMultiple G cA [.ref (qD 0)] ((wRd qD qL qSm zD)) ((wLine cA qL zL)) ((wRd qD qL qSm res.2)) res.1 := by
  refine Met.ofW (cc := cX3_readMultiple) (maxL := 3) (ret := (some .boolean)) (by decide) rfl ?_
  intro p e s m args below meth c s₁ B hml hv
  obtain ⟨rfl, hK, hP, hD0, hR, hRA⟩ := hv
  have C0 : Amb p s m ([.ref (qD 0)] : List Value).toArray meth c cX3_readMultiple RX3 3 (some .boolean) G cA (adr ((wRd qD qL qSm zD))) ((wLine cA qL zL)) := ⟨B.exec, B.bytes, B.returns, hml, findClass_of_methodNamed B.named, fun w h => atoms_spec (ws := (.code yX3_readMultiple cX3_readMultiple 3 (some .boolean) :: wd)) B.pre w (List.mem_cons_of_mem _ h), B.notSynchronized, hK, hR, hRA⟩
  have hl := lv_entry ([.ref (qD 0)]) (n := 3) (Nat.le_of_ble_eq_true rfl)
  rw [lg_entry_eq]
  generalize (lg_sl ([.ref (qD 0)]) ++ List.replicate (3 - (lg_sl ([.ref (qD 0)])).length) Slot.unset).toArray = ls at hl ⊢
  have hl : lv_has ls 3 [(0, .ref (qD 0))] := hl
  exact b_X3_readMultiple_0 (W9 := ((wRd qD qL qSm zD))) qD qL qSm zL C0 zD s.heap [] ls hP (adr.self hD0) va_S.rf hl hf
theorem cw_X3_readMultiple {R : Room} {s : State} {args : Array Value} {own : String} {index : Nat} (ht : ∀ w ∈ wd, w.before args s = true) (hlink : Cond.methodLink own index yX3_readMultiple ∈ wd) (hR : rm_X3_readMultiple.frames + 1 ≤ R.frames ∧ 8 + (3 + 11) + rm_X3_readMultiple.locals ≤ R.locals) : CallW R s args own RX3 index yX3_readMultiple cX3_readMultiple 3 (some .boolean) (.code yX3_readMultiple cX3_readMultiple 3 (some .boolean) :: wd) rm_X3_readMultiple 0 0 0 := cwV9 0 ht wi_385 wi_384 wi_11 wi_58 hlink (by decide +kernel) rfl rfl hR
def rm_X3_readLogPower : Room := { frames := 2, cells := 0, slots := 0, locals := 47 }
def f_X3_readLogPower_25 (zL : LineS) (zD : RdS) : Option (Int32 × RdS) := if (gR_arg zD) = (-1 : Int32) then some ((0 : Int32), zD) else some ((1 : Int32), zD)
set_option maxHeartbeats 4000000 in
set_option maxRecDepth 100000 in
theorem b_X3_readLogPower_25 {p : Program} {l : Launch} {e : Env} {s : State} {m : MethodId} {args : Array Value} {below : List Frame} {meth : Method} {c : Code} {G : va_G} {cA : Nat → ClassId} {W9 : va_W} (qD : Nat → Nat) (qL : Nat → Nat) (qSm : Nat → Nat) (zL : LineS) (C0 : Amb p s m args meth c cX3_readLogPower RX3 1 (some .boolean) G cA (adr W9) ((wLine cA qL zL))) {res : Int32 × RdS} : ∀ (zD : RdS) (H : Heap) (locs : List Loc) (ls : Array Slot), va_P G vwCl ((wRd qD qL qSm zD)) H → va_D (adr W9) ((wRd qD qL qSm zD)) → va_S (adr W9) s.heap H locs → lv_has ls 1 [(0, .ref (qD 0))] → f_X3_readLogPower_25 zL zD = some res → W p l e rm_X3_readLogPower s m args below meth c H locs 0 0 (MQ below (qWi G W9 ((wRd qD qL qSm res.2)) res.1) args s 0 0 (adr W9)) (F0 m 25 ls []) := by
  obtain ⟨hx, hb, hr, hml, hown, hts, hlocks, hK, hR, hRA⟩ := id C0
  intro zD H locs ls hP hD hS hl hf
  unfold f_X3_readLogPower_25 at hf
  refine lv_aload_n hx hb dX3_readLogPower_25 rfl (lv_at hl 0 rfl) ?_
  refine va_get (D := G) (ci := 1) (v := .int (gR_arg zD)) (C := RX3) (T := TX3) (N := 10) hx hb hts fin_X3 hown hK.1 hP 0 rfl rfl 9 (by decide) (hts _ wi_136) (fun _ h9 => h9) rfl dX3_readLogPower_26 ?_
  refine lv_iconst (v := (-1)) hx hb dX3_readLogPower_29 (by decide) ?_
  refine lv_icmp_eq (tgt := 37) hx hb dX3_readLogPower_30 (by decide) (fun c_1 => ?_) (fun c_1 => ?_)
  · rw [if_pos (c_1)] at hf
    refine lv_iconst (v := 0) hx hb dX3_readLogPower_37 (by decide) ?_
    cases hf
    exact W.zret hx hb hr (by decide) (fun t ht hW => ⟨⟨_, (), rfl, rfl, toT ht hP⟩, hS.F ht⟩) hS.2.2 dX3_readLogPower_38 hlocks
  · rw [if_neg (c_1)] at hf
    refine lv_iconst (v := 1) hx hb dX3_readLogPower_33 (by decide) ?_
    refine lv_goto (tgt := 38) hx hb dX3_readLogPower_34 (by decide) ?_
    cases hf
    exact W.zret hx hb hr (by decide) (fun t ht hW => ⟨⟨_, (), rfl, rfl, toT ht hP⟩, hS.F ht⟩) hS.2.2 dX3_readLogPower_38 hlocks
def f_X3_readLogPower (zL : LineS) (zD : RdS) : Option (Int32 × RdS) := (f_X3_takes zL (uR_arg zD (1 : Int32)) (94 : Int32)).bind fun r_1 => if r_1.1 = 0 then f_X3_readLogPower_25 zL r_1.2 else (f_X3_readNumber zL r_1.2 (0 : Int32) (9 : Int32)).bind fun r_3 => f_X3_readLogPower_25 zL (uR_arg r_3.2 r_3.1)
set_option maxHeartbeats 4000000 in
set_option maxRecDepth 100000 in
theorem b_X3_readLogPower_0 {p : Program} {l : Launch} {e : Env} {s : State} {m : MethodId} {args : Array Value} {below : List Frame} {meth : Method} {c : Code} {G : va_G} {cA : Nat → ClassId} {W9 : va_W} (qD : Nat → Nat) (qL : Nat → Nat) (qSm : Nat → Nat) (zL : LineS) (C0 : Amb p s m args meth c cX3_readLogPower RX3 1 (some .boolean) G cA (adr W9) ((wLine cA qL zL))) {res : Int32 × RdS} : ∀ (zD : RdS) (H : Heap) (locs : List Loc) (ls : Array Slot), va_P G vwCl ((wRd qD qL qSm zD)) H → va_D (adr W9) ((wRd qD qL qSm zD)) → va_S (adr W9) s.heap H locs → lv_has ls 1 [(0, .ref (qD 0))] → f_X3_readLogPower zL zD = some res → W p l e rm_X3_readLogPower s m args below meth c H locs 0 0 (MQ below (qWi G W9 ((wRd qD qL qSm res.2)) res.1) args s 0 0 (adr W9)) (F0 m 0 ls []) := by
  obtain ⟨hx, hb, hr, hml, hown, hts, hlocks, hK, hR, hRA⟩ := id C0
  intro zD H locs ls hP hD hS hl hf
  unfold f_X3_readLogPower at hf
  refine lv_aload_n hx hb dX3_readLogPower_0 rfl (lv_at hl 0 rfl) ?_
  refine lv_iconst (v := 1) hx hb dX3_readLogPower_1 (by decide) ?_
  refine va_put (D := G) (ci := 1) (v := .int (1 : Int32)) (ty := .int) (C := RX3) (T := TX3) (N := 10) hx hb hts fin_X3 tyX3 tyX3_ok nmX3 hown hK.1 hP hD hS 0 rfl rfl 9 (by decide) (hts _ wi_136) (fun _ h9 => h9) rfl (by decide +kernel) rfl rfl (Nat.le_of_ble_eq_true rfl) dX3_readLogPower_2 (fun H locs hP hD hS => ?_)
  have hP := sR_arg_P hP
  have hD := sR_arg_D hD
  refine lv_aload_n hx hb dX3_readLogPower_5 rfl (lv_at hl 0 rfl) ?_
  refine lv_bipush (v := (94 : Int32)) hx hb dX3_readLogPower_6 (by decide) ?_
  obtain ⟨r_1, hr_1, hf⟩ := obd hf
  refine cWiV (As := [.int (94 : Int32)]) (rest := []) (W1 := ((wRd qD qL qSm r_1.2))) ⟨hx, hb, hml, hown, hts⟩ (m_X3_takes l G cA qD qL qSm zL (uR_arg zD (1 : Int32)) (94 : Int32) r_1 hr_1) (cw_X3_takes hts wi_335 ⟨Nat.le_of_ble_eq_true rfl, Nat.le_of_ble_eq_true rfl⟩) hK hP hD hS [0] [1] rfl rfl rfl (by decide) rfl (pk (roP hR hRA hS) [0, 1] rfl) (dj_ro hD hRA [0, 1] (rfl : [0].map _ = _) rfl) (va_recv hK.1 hP (ci := 1) (q0 := 0) rfl rfl) rfl hl.1 rfl (Nat.le_of_ble_eq_true rfl) dX3_readLogPower_8 ⟨Nat.zero_le _, Nat.zero_le _⟩ (fun H locs hP hD hS => ?_)
  refine lv_if_eq (tgt := 25) hx hb dX3_readLogPower_11 (by decide) (fun c_2 => ?_) (fun c_2 => ?_)
  · rw [if_pos (c_2)] at hf
    exact b_X3_readLogPower_25 qD qL qSm zL C0  r_1.2 H locs ls hP hD hS (lv_sub hl [0] rfl) hf
  · rw [if_neg (c_2)] at hf
    refine lv_aload_n hx hb dX3_readLogPower_14 rfl (lv_at hl 0 rfl) ?_
    refine lv_aload_n hx hb dX3_readLogPower_15 rfl (lv_at hl 0 rfl) ?_
    refine lv_iconst (v := 0) hx hb dX3_readLogPower_16 (by decide) ?_
    refine lv_bipush (v := (9 : Int32)) hx hb dX3_readLogPower_17 (by decide) ?_
    obtain ⟨r_3, hr_3, hf⟩ := obd hf
    refine cWiV (As := [.int (0 : Int32), .int (9 : Int32)]) (rest := [.ref (qD 0)]) (W1 := ((wRd qD qL qSm r_3.2))) ⟨hx, hb, hml, hown, hts⟩ (m_X3_readNumber l G cA qD qL qSm zL r_1.2 (0 : Int32) (9 : Int32) r_3 hr_3) (cw_X3_readNumber hts wi_354 ⟨Nat.le_of_ble_eq_true rfl, Nat.le_of_ble_eq_true rfl⟩) hK hP hD hS [0] [1] rfl rfl rfl (by decide) rfl (pk (roP hR hRA hS) [0, 1] rfl) (dj_ro hD hRA [0, 1] (rfl : [0].map _ = _) rfl) (va_recv hK.1 hP (ci := 1) (q0 := 0) rfl rfl) rfl hl.1 rfl (Nat.le_of_ble_eq_true rfl) dX3_readLogPower_19 ⟨Nat.zero_le _, Nat.zero_le _⟩ (fun H locs hP hD hS => ?_)
    refine va_put (D := G) (ci := 1) (v := .int r_3.1) (ty := .int) (C := RX3) (T := TX3) (N := 10) hx hb hts fin_X3 tyX3 tyX3_ok nmX3 hown hK.1 hP hD hS 0 rfl rfl 9 (by decide) (hts _ wi_136) (fun _ h9 => h9) rfl (by decide +kernel) rfl rfl (Nat.le_of_ble_eq_true rfl) dX3_readLogPower_22 (fun H locs hP hD hS => ?_)
    have hP := sR_arg_P hP
    have hD := sR_arg_D hD
    exact b_X3_readLogPower_25 qD qL qSm zL C0  (uR_arg r_3.2 r_3.1) H locs ls hP hD hS (lv_sub hl [0] rfl) hf

set_option maxRecDepth 100000 in
theorem m_X3_readLogPower (l : Launch) (G : va_G) (cA : Nat → ClassId) (qD : Nat → Nat) (qL : Nat → Nat) (qSm : Nat → Nat) (zL : LineS) (zD : RdS) (res : Int32 × RdS) (hf : f_X3_readLogPower zL zD = some res) : MWi l yX3_readLogPower (.code yX3_readLogPower cX3_readLogPower 1 (some .boolean) :: wd) rm_X3_readLogPower G cA [.ref (qD 0)] ((wRd qD qL qSm zD)) ((wLine cA qL zL)) ((wRd qD qL qSm res.2)) res.1 := by
  refine Met.ofW (cc := cX3_readLogPower) (maxL := 1) (ret := (some .boolean)) (by decide) rfl ?_
  intro p e s m args below meth c s₁ B hml hv
  obtain ⟨rfl, hK, hP, hD0, hR, hRA⟩ := hv
  have C0 : Amb p s m ([.ref (qD 0)] : List Value).toArray meth c cX3_readLogPower RX3 1 (some .boolean) G cA (adr ((wRd qD qL qSm zD))) ((wLine cA qL zL)) := ⟨B.exec, B.bytes, B.returns, hml, findClass_of_methodNamed B.named, fun w h => atoms_spec (ws := (.code yX3_readLogPower cX3_readLogPower 1 (some .boolean) :: wd)) B.pre w (List.mem_cons_of_mem _ h), B.notSynchronized, hK, hR, hRA⟩
  have hl := lv_entry ([.ref (qD 0)]) (n := 1) (Nat.le_of_ble_eq_true rfl)
  rw [lg_entry_eq]
  generalize (lg_sl ([.ref (qD 0)]) ++ List.replicate (1 - (lg_sl ([.ref (qD 0)])).length) Slot.unset).toArray = ls at hl ⊢
  have hl : lv_has ls 1 [(0, .ref (qD 0))] := hl
  exact b_X3_readLogPower_0 (W9 := ((wRd qD qL qSm zD))) qD qL qSm zL C0 zD s.heap [] ls hP (adr.self hD0) va_S.rf hl hf
theorem cw_X3_readLogPower {R : Room} {s : State} {args : Array Value} {own : String} {index : Nat} (ht : ∀ w ∈ wd, w.before args s = true) (hlink : Cond.methodLink own index yX3_readLogPower ∈ wd) (hR : rm_X3_readLogPower.frames + 1 ≤ R.frames ∧ 8 + (1 + 11) + rm_X3_readLogPower.locals ≤ R.locals) : CallW R s args own RX3 index yX3_readLogPower cX3_readLogPower 1 (some .boolean) (.code yX3_readLogPower cX3_readLogPower 1 (some .boolean) :: wd) rm_X3_readLogPower 0 0 0 := cwV9 0 ht wi_377 wi_376 wi_9 wi_58 hlink (by decide +kernel) rfl rfl hR
def rm_X3_readFunction : Room := { frames := 3, cells := 0, slots := 0, locals := 69 }
def f_X3_readFunction_72 (zL : LineS) (zD : RdS) : Option (Int32 × RdS) := (f_X3_expect zL zD (40 : Int32)).bind fun r_1 => if r_1.1 = 0 then some ((0 : Int32), r_1.2) else (f_X3_readMultiple zL r_1.2).bind fun r_3 => if r_3.1 = 0 then some ((0 : Int32), r_3.2) else (f_X3_expect zL r_3.2 (120 : Int32)).bind fun r_5 => if r_5.1 = 0 then some ((0 : Int32), r_5.2) else (f_X3_expect zL r_5.2 (41 : Int32)).bind fun r_7 => if r_7.1 = 0 then some ((0 : Int32), r_7.2) else some ((1 : Int32), r_7.2)
set_option maxHeartbeats 4000000 in
set_option maxRecDepth 100000 in
theorem b_X3_readFunction_72 {p : Program} {l : Launch} {e : Env} {s : State} {m : MethodId} {args : Array Value} {below : List Frame} {meth : Method} {c : Code} {G : va_G} {cA : Nat → ClassId} {W9 : va_W} (qD : Nat → Nat) (qL : Nat → Nat) (qSm : Nat → Nat) (zL : LineS) (C0 : Amb p s m args meth c cX3_readFunction RX3 1 (some .boolean) G cA (adr W9) ((wLine cA qL zL))) {res : Int32 × RdS} : ∀ (zD : RdS) (H : Heap) (locs : List Loc) (ls : Array Slot), va_P G vwCl ((wRd qD qL qSm zD)) H → va_D (adr W9) ((wRd qD qL qSm zD)) → va_S (adr W9) s.heap H locs → lv_has ls 1 [(0, .ref (qD 0))] → f_X3_readFunction_72 zL zD = some res → W p l e rm_X3_readFunction s m args below meth c H locs 0 0 (MQ below (qWi G W9 ((wRd qD qL qSm res.2)) res.1) args s 0 0 (adr W9)) (F0 m 72 ls []) := by
  obtain ⟨hx, hb, hr, hml, hown, hts, hlocks, hK, hR, hRA⟩ := id C0
  intro zD H locs ls hP hD hS hl hf
  unfold f_X3_readFunction_72 at hf
  refine lv_aload_n hx hb dX3_readFunction_72 rfl (lv_at hl 0 rfl) ?_
  refine lv_bipush (v := (40 : Int32)) hx hb dX3_readFunction_73 (by decide) ?_
  obtain ⟨r_1, hr_1, hf⟩ := obd hf
  refine cWiV (As := [.int (40 : Int32)]) (rest := []) (W1 := ((wRd qD qL qSm r_1.2))) ⟨hx, hb, hml, hown, hts⟩ (m_X3_expect l G cA qD qL qSm zL zD (40 : Int32) r_1 hr_1) (cw_X3_expect hts wi_378 ⟨Nat.le_of_ble_eq_true rfl, Nat.le_of_ble_eq_true rfl⟩) hK hP hD hS [0] [1] rfl rfl rfl (by decide) rfl (pk (roP hR hRA hS) [0, 1] rfl) (dj_ro hD hRA [0, 1] (rfl : [0].map _ = _) rfl) (va_recv hK.1 hP (ci := 1) (q0 := 0) rfl rfl) rfl hl.1 rfl (Nat.le_of_ble_eq_true rfl) dX3_readFunction_75 ⟨Nat.zero_le _, Nat.zero_le _⟩ (fun H locs hP hD hS => ?_)
  refine lv_if_eq (tgt := 110) hx hb dX3_readFunction_78 (by decide) (fun c_2 => ?_) (fun c_2 => ?_)
  · rw [if_pos (c_2)] at hf
    refine lv_iconst (v := 0) hx hb dX3_readFunction_110 (by decide) ?_
    cases hf
    exact W.zret hx hb hr (by decide) (fun t ht hW => ⟨⟨_, (), rfl, rfl, toT ht hP⟩, hS.F ht⟩) hS.2.2 dX3_readFunction_111 hlocks
  · rw [if_neg (c_2)] at hf
    refine lv_aload_n hx hb dX3_readFunction_81 rfl (lv_at hl 0 rfl) ?_
    obtain ⟨r_3, hr_3, hf⟩ := obd hf
    refine cWiV (As := []) (rest := []) (W1 := ((wRd qD qL qSm r_3.2))) ⟨hx, hb, hml, hown, hts⟩ (m_X3_readMultiple l G cA qD qL qSm zL r_1.2 r_3 hr_3) (cw_X3_readMultiple hts wi_382 ⟨Nat.le_of_ble_eq_true rfl, Nat.le_of_ble_eq_true rfl⟩) hK hP hD hS [0] [1] rfl rfl rfl (by decide) rfl (pk (roP hR hRA hS) [0, 1] rfl) (dj_ro hD hRA [0, 1] (rfl : [0].map _ = _) rfl) (va_recv hK.1 hP (ci := 1) (q0 := 0) rfl rfl) rfl hl.1 rfl (Nat.le_of_ble_eq_true rfl) dX3_readFunction_82 ⟨Nat.zero_le _, Nat.zero_le _⟩ (fun H locs hP hD hS => ?_)
    refine lv_if_eq (tgt := 110) hx hb dX3_readFunction_85 (by decide) (fun c_4 => ?_) (fun c_4 => ?_)
    · rw [if_pos (c_4)] at hf
      refine lv_iconst (v := 0) hx hb dX3_readFunction_110 (by decide) ?_
      cases hf
      exact W.zret hx hb hr (by decide) (fun t ht hW => ⟨⟨_, (), rfl, rfl, toT ht hP⟩, hS.F ht⟩) hS.2.2 dX3_readFunction_111 hlocks
    · rw [if_neg (c_4)] at hf
      refine lv_aload_n hx hb dX3_readFunction_88 rfl (lv_at hl 0 rfl) ?_
      refine lv_bipush (v := (120 : Int32)) hx hb dX3_readFunction_89 (by decide) ?_
      obtain ⟨r_5, hr_5, hf⟩ := obd hf
      refine cWiV (As := [.int (120 : Int32)]) (rest := []) (W1 := ((wRd qD qL qSm r_5.2))) ⟨hx, hb, hml, hown, hts⟩ (m_X3_expect l G cA qD qL qSm zL r_3.2 (120 : Int32) r_5 hr_5) (cw_X3_expect hts wi_378 ⟨Nat.le_of_ble_eq_true rfl, Nat.le_of_ble_eq_true rfl⟩) hK hP hD hS [0] [1] rfl rfl rfl (by decide) rfl (pk (roP hR hRA hS) [0, 1] rfl) (dj_ro hD hRA [0, 1] (rfl : [0].map _ = _) rfl) (va_recv hK.1 hP (ci := 1) (q0 := 0) rfl rfl) rfl hl.1 rfl (Nat.le_of_ble_eq_true rfl) dX3_readFunction_91 ⟨Nat.zero_le _, Nat.zero_le _⟩ (fun H locs hP hD hS => ?_)
      refine lv_if_eq (tgt := 110) hx hb dX3_readFunction_94 (by decide) (fun c_6 => ?_) (fun c_6 => ?_)
      · rw [if_pos (c_6)] at hf
        refine lv_iconst (v := 0) hx hb dX3_readFunction_110 (by decide) ?_
        cases hf
        exact W.zret hx hb hr (by decide) (fun t ht hW => ⟨⟨_, (), rfl, rfl, toT ht hP⟩, hS.F ht⟩) hS.2.2 dX3_readFunction_111 hlocks
      · rw [if_neg (c_6)] at hf
        refine lv_aload_n hx hb dX3_readFunction_97 rfl (lv_at hl 0 rfl) ?_
        refine lv_bipush (v := (41 : Int32)) hx hb dX3_readFunction_98 (by decide) ?_
        obtain ⟨r_7, hr_7, hf⟩ := obd hf
        refine cWiV (As := [.int (41 : Int32)]) (rest := []) (W1 := ((wRd qD qL qSm r_7.2))) ⟨hx, hb, hml, hown, hts⟩ (m_X3_expect l G cA qD qL qSm zL r_5.2 (41 : Int32) r_7 hr_7) (cw_X3_expect hts wi_378 ⟨Nat.le_of_ble_eq_true rfl, Nat.le_of_ble_eq_true rfl⟩) hK hP hD hS [0] [1] rfl rfl rfl (by decide) rfl (pk (roP hR hRA hS) [0, 1] rfl) (dj_ro hD hRA [0, 1] (rfl : [0].map _ = _) rfl) (va_recv hK.1 hP (ci := 1) (q0 := 0) rfl rfl) rfl hl.1 rfl (Nat.le_of_ble_eq_true rfl) dX3_readFunction_100 ⟨Nat.zero_le _, Nat.zero_le _⟩ (fun H locs hP hD hS => ?_)
        refine lv_if_eq (tgt := 110) hx hb dX3_readFunction_103 (by decide) (fun c_8 => ?_) (fun c_8 => ?_)
        · rw [if_pos (c_8)] at hf
          refine lv_iconst (v := 0) hx hb dX3_readFunction_110 (by decide) ?_
          cases hf
          exact W.zret hx hb hr (by decide) (fun t ht hW => ⟨⟨_, (), rfl, rfl, toT ht hP⟩, hS.F ht⟩) hS.2.2 dX3_readFunction_111 hlocks
        · rw [if_neg (c_8)] at hf
          refine lv_iconst (v := 1) hx hb dX3_readFunction_106 (by decide) ?_
          refine lv_goto (tgt := 111) hx hb dX3_readFunction_107 (by decide) ?_
          cases hf
          exact W.zret hx hb hr (by decide) (fun t ht hW => ⟨⟨_, (), rfl, rfl, toT ht hP⟩, hS.F ht⟩) hS.2.2 dX3_readFunction_111 hlocks
def f_X3_readFunction (zL : LineS) (zD : RdS) : Option (Int32 × RdS) := (f_X3_takes zL zD (108 : Int32)).bind fun r_1 => if r_1.1 = 0 then (f_X3_takes zL r_1.2 (101 : Int32)).bind fun r_3 => if r_3.1 = 0 then (f_X3_takes zL r_3.2 (115 : Int32)).bind fun r_5 => if r_5.1 = 0 then (f_X3_takes zL r_5.2 (99 : Int32)).bind fun r_7 => if r_7.1 = 0 then some ((1 : Int32), r_7.2) else f_X3_readFunction_72 zL (uR_kind r_7.2 (4 : Int32)) else f_X3_readFunction_72 zL (uR_kind r_5.2 (3 : Int32)) else f_X3_readFunction_72 zL (uR_kind r_3.2 (2 : Int32)) else (f_X3_readLogPower zL (uR_kind r_1.2 (1 : Int32))).bind fun r_9 => if zb r_9.1 = true then some (r_9.1, r_9.2) else none
set_option maxHeartbeats 4000000 in
set_option maxRecDepth 100000 in
theorem b_X3_readFunction_0 {p : Program} {l : Launch} {e : Env} {s : State} {m : MethodId} {args : Array Value} {below : List Frame} {meth : Method} {c : Code} {G : va_G} {cA : Nat → ClassId} {W9 : va_W} (qD : Nat → Nat) (qL : Nat → Nat) (qSm : Nat → Nat) (zL : LineS) (C0 : Amb p s m args meth c cX3_readFunction RX3 1 (some .boolean) G cA (adr W9) ((wLine cA qL zL))) {res : Int32 × RdS} : ∀ (zD : RdS) (H : Heap) (locs : List Loc) (ls : Array Slot), va_P G vwCl ((wRd qD qL qSm zD)) H → va_D (adr W9) ((wRd qD qL qSm zD)) → va_S (adr W9) s.heap H locs → lv_has ls 1 [(0, .ref (qD 0))] → f_X3_readFunction zL zD = some res → W p l e rm_X3_readFunction s m args below meth c H locs 0 0 (MQ below (qWi G W9 ((wRd qD qL qSm res.2)) res.1) args s 0 0 (adr W9)) (F0 m 0 ls []) := by
  obtain ⟨hx, hb, hr, hml, hown, hts, hlocks, hK, hR, hRA⟩ := id C0
  intro zD H locs ls hP hD hS hl hf
  unfold f_X3_readFunction at hf
  refine lv_aload_n hx hb dX3_readFunction_0 rfl (lv_at hl 0 rfl) ?_
  refine lv_bipush (v := (108 : Int32)) hx hb dX3_readFunction_1 (by decide) ?_
  obtain ⟨r_1, hr_1, hf⟩ := obd hf
  refine cWiV (As := [.int (108 : Int32)]) (rest := []) (W1 := ((wRd qD qL qSm r_1.2))) ⟨hx, hb, hml, hown, hts⟩ (m_X3_takes l G cA qD qL qSm zL zD (108 : Int32) r_1 hr_1) (cw_X3_takes hts wi_335 ⟨Nat.le_of_ble_eq_true rfl, Nat.le_of_ble_eq_true rfl⟩) hK hP hD hS [0] [1] rfl rfl rfl (by decide) rfl (pk (roP hR hRA hS) [0, 1] rfl) (dj_ro hD hRA [0, 1] (rfl : [0].map _ = _) rfl) (va_recv hK.1 hP (ci := 1) (q0 := 0) rfl rfl) rfl hl.1 rfl (Nat.le_of_ble_eq_true rfl) dX3_readFunction_3 ⟨Nat.zero_le _, Nat.zero_le _⟩ (fun H locs hP hD hS => ?_)
  refine lv_if_eq (tgt := 19) hx hb dX3_readFunction_6 (by decide) (fun c_2 => ?_) (fun c_2 => ?_)
  · rw [if_pos (c_2)] at hf
    refine lv_aload_n hx hb dX3_readFunction_19 rfl (lv_at hl 0 rfl) ?_
    refine lv_bipush (v := (101 : Int32)) hx hb dX3_readFunction_20 (by decide) ?_
    obtain ⟨r_3, hr_3, hf⟩ := obd hf
    refine cWiV (As := [.int (101 : Int32)]) (rest := []) (W1 := ((wRd qD qL qSm r_3.2))) ⟨hx, hb, hml, hown, hts⟩ (m_X3_takes l G cA qD qL qSm zL r_1.2 (101 : Int32) r_3 hr_3) (cw_X3_takes hts wi_335 ⟨Nat.le_of_ble_eq_true rfl, Nat.le_of_ble_eq_true rfl⟩) hK hP hD hS [0] [1] rfl rfl rfl (by decide) rfl (pk (roP hR hRA hS) [0, 1] rfl) (dj_ro hD hRA [0, 1] (rfl : [0].map _ = _) rfl) (va_recv hK.1 hP (ci := 1) (q0 := 0) rfl rfl) rfl hl.1 rfl (Nat.le_of_ble_eq_true rfl) dX3_readFunction_22 ⟨Nat.zero_le _, Nat.zero_le _⟩ (fun H locs hP hD hS => ?_)
    refine lv_if_eq (tgt := 36) hx hb dX3_readFunction_25 (by decide) (fun c_4 => ?_) (fun c_4 => ?_)
    · rw [if_pos (c_4)] at hf
      refine lv_aload_n hx hb dX3_readFunction_36 rfl (lv_at hl 0 rfl) ?_
      refine lv_bipush (v := (115 : Int32)) hx hb dX3_readFunction_37 (by decide) ?_
      obtain ⟨r_5, hr_5, hf⟩ := obd hf
      refine cWiV (As := [.int (115 : Int32)]) (rest := []) (W1 := ((wRd qD qL qSm r_5.2))) ⟨hx, hb, hml, hown, hts⟩ (m_X3_takes l G cA qD qL qSm zL r_3.2 (115 : Int32) r_5 hr_5) (cw_X3_takes hts wi_335 ⟨Nat.le_of_ble_eq_true rfl, Nat.le_of_ble_eq_true rfl⟩) hK hP hD hS [0] [1] rfl rfl rfl (by decide) rfl (pk (roP hR hRA hS) [0, 1] rfl) (dj_ro hD hRA [0, 1] (rfl : [0].map _ = _) rfl) (va_recv hK.1 hP (ci := 1) (q0 := 0) rfl rfl) rfl hl.1 rfl (Nat.le_of_ble_eq_true rfl) dX3_readFunction_39 ⟨Nat.zero_le _, Nat.zero_le _⟩ (fun H locs hP hD hS => ?_)
      refine lv_if_eq (tgt := 53) hx hb dX3_readFunction_42 (by decide) (fun c_6 => ?_) (fun c_6 => ?_)
      · rw [if_pos (c_6)] at hf
        refine lv_aload_n hx hb dX3_readFunction_53 rfl (lv_at hl 0 rfl) ?_
        refine lv_bipush (v := (99 : Int32)) hx hb dX3_readFunction_54 (by decide) ?_
        obtain ⟨r_7, hr_7, hf⟩ := obd hf
        refine cWiV (As := [.int (99 : Int32)]) (rest := []) (W1 := ((wRd qD qL qSm r_7.2))) ⟨hx, hb, hml, hown, hts⟩ (m_X3_takes l G cA qD qL qSm zL r_5.2 (99 : Int32) r_7 hr_7) (cw_X3_takes hts wi_335 ⟨Nat.le_of_ble_eq_true rfl, Nat.le_of_ble_eq_true rfl⟩) hK hP hD hS [0] [1] rfl rfl rfl (by decide) rfl (pk (roP hR hRA hS) [0, 1] rfl) (dj_ro hD hRA [0, 1] (rfl : [0].map _ = _) rfl) (va_recv hK.1 hP (ci := 1) (q0 := 0) rfl rfl) rfl hl.1 rfl (Nat.le_of_ble_eq_true rfl) dX3_readFunction_56 ⟨Nat.zero_le _, Nat.zero_le _⟩ (fun H locs hP hD hS => ?_)
        refine lv_if_eq (tgt := 70) hx hb dX3_readFunction_59 (by decide) (fun c_8 => ?_) (fun c_8 => ?_)
        · rw [if_pos (c_8)] at hf
          refine lv_iconst (v := 1) hx hb dX3_readFunction_70 (by decide) ?_
          cases hf
          exact W.zret hx hb hr (by decide) (fun t ht hW => ⟨⟨_, (), rfl, rfl, toT ht hP⟩, hS.F ht⟩) hS.2.2 dX3_readFunction_71 hlocks
        · rw [if_neg (c_8)] at hf
          refine lv_aload_n hx hb dX3_readFunction_62 rfl (lv_at hl 0 rfl) ?_
          refine lv_iconst (v := 4) hx hb dX3_readFunction_63 (by decide) ?_
          refine va_put (D := G) (ci := 1) (v := .int (4 : Int32)) (ty := .int) (C := RX3) (T := TX3) (N := 10) hx hb hts fin_X3 tyX3 tyX3_ok nmX3 hown hK.1 hP hD hS 0 rfl rfl 8 (by decide) (hts _ wi_135) (fun _ h9 => h9) rfl (by decide +kernel) rfl rfl (Nat.le_of_ble_eq_true rfl) dX3_readFunction_64 (fun H locs hP hD hS => ?_)
          have hP := sR_kind_P hP
          have hD := sR_kind_D hD
          refine lv_goto (tgt := 72) hx hb dX3_readFunction_67 (by decide) ?_
          exact b_X3_readFunction_72 qD qL qSm zL C0  (uR_kind r_7.2 (4 : Int32)) H locs ls hP hD hS (lv_sub hl [0] rfl) hf
      · rw [if_neg (c_6)] at hf
        refine lv_aload_n hx hb dX3_readFunction_45 rfl (lv_at hl 0 rfl) ?_
        refine lv_iconst (v := 3) hx hb dX3_readFunction_46 (by decide) ?_
        refine va_put (D := G) (ci := 1) (v := .int (3 : Int32)) (ty := .int) (C := RX3) (T := TX3) (N := 10) hx hb hts fin_X3 tyX3 tyX3_ok nmX3 hown hK.1 hP hD hS 0 rfl rfl 8 (by decide) (hts _ wi_135) (fun _ h9 => h9) rfl (by decide +kernel) rfl rfl (Nat.le_of_ble_eq_true rfl) dX3_readFunction_47 (fun H locs hP hD hS => ?_)
        have hP := sR_kind_P hP
        have hD := sR_kind_D hD
        refine lv_goto (tgt := 72) hx hb dX3_readFunction_50 (by decide) ?_
        exact b_X3_readFunction_72 qD qL qSm zL C0  (uR_kind r_5.2 (3 : Int32)) H locs ls hP hD hS (lv_sub hl [0] rfl) hf
    · rw [if_neg (c_4)] at hf
      refine lv_aload_n hx hb dX3_readFunction_28 rfl (lv_at hl 0 rfl) ?_
      refine lv_iconst (v := 2) hx hb dX3_readFunction_29 (by decide) ?_
      refine va_put (D := G) (ci := 1) (v := .int (2 : Int32)) (ty := .int) (C := RX3) (T := TX3) (N := 10) hx hb hts fin_X3 tyX3 tyX3_ok nmX3 hown hK.1 hP hD hS 0 rfl rfl 8 (by decide) (hts _ wi_135) (fun _ h9 => h9) rfl (by decide +kernel) rfl rfl (Nat.le_of_ble_eq_true rfl) dX3_readFunction_30 (fun H locs hP hD hS => ?_)
      have hP := sR_kind_P hP
      have hD := sR_kind_D hD
      refine lv_goto (tgt := 72) hx hb dX3_readFunction_33 (by decide) ?_
      exact b_X3_readFunction_72 qD qL qSm zL C0  (uR_kind r_3.2 (2 : Int32)) H locs ls hP hD hS (lv_sub hl [0] rfl) hf
  · rw [if_neg (c_2)] at hf
    refine lv_aload_n hx hb dX3_readFunction_9 rfl (lv_at hl 0 rfl) ?_
    refine lv_iconst (v := 1) hx hb dX3_readFunction_10 (by decide) ?_
    refine va_put (D := G) (ci := 1) (v := .int (1 : Int32)) (ty := .int) (C := RX3) (T := TX3) (N := 10) hx hb hts fin_X3 tyX3 tyX3_ok nmX3 hown hK.1 hP hD hS 0 rfl rfl 8 (by decide) (hts _ wi_135) (fun _ h9 => h9) rfl (by decide +kernel) rfl rfl (Nat.le_of_ble_eq_true rfl) dX3_readFunction_11 (fun H locs hP hD hS => ?_)
    have hP := sR_kind_P hP
    have hD := sR_kind_D hD
    refine lv_aload_n hx hb dX3_readFunction_14 rfl (lv_at hl 0 rfl) ?_
    obtain ⟨r_9, hr_9, hf⟩ := obd hf
    refine cWiV (As := []) (rest := []) (W1 := ((wRd qD qL qSm r_9.2))) ⟨hx, hb, hml, hown, hts⟩ (m_X3_readLogPower l G cA qD qL qSm zL (uR_kind r_1.2 (1 : Int32)) r_9 hr_9) (cw_X3_readLogPower hts wi_374 ⟨Nat.le_of_ble_eq_true rfl, Nat.le_of_ble_eq_true rfl⟩) hK hP hD hS [0] [1] rfl rfl rfl (by decide) rfl (pk (roP hR hRA hS) [0, 1] rfl) (dj_ro hD hRA [0, 1] (rfl : [0].map _ = _) rfl) (va_recv hK.1 hP (ci := 1) (q0 := 0) rfl rfl) rfl hl.1 rfl (Nat.le_of_ble_eq_true rfl) dX3_readFunction_15 ⟨Nat.zero_le _, Nat.zero_le _⟩ (fun H locs hP hD hS => ?_)
    obtain ⟨hz_10, hf⟩ := oif hf
    cases hf
    exact W.zret hx hb hr (zb_n hz_10) (fun t ht hW => ⟨⟨_, (), rfl, rfl, toT ht hP⟩, hS.F ht⟩) hS.2.2 dX3_readFunction_18 hlocks

set_option maxRecDepth 100000 in
theorem m_X3_readFunction (l : Launch) (G : va_G) (cA : Nat → ClassId) (qD : Nat → Nat) (qL : Nat → Nat) (qSm : Nat → Nat) (zL : LineS) (zD : RdS) (res : Int32 × RdS) (hf : f_X3_readFunction zL zD = some res) : MWi l yX3_readFunction (.code yX3_readFunction cX3_readFunction 1 (some .boolean) :: wd) rm_X3_readFunction G cA [.ref (qD 0)] ((wRd qD qL qSm zD)) ((wLine cA qL zL)) ((wRd qD qL qSm res.2)) res.1 := by
  refine Met.ofW (cc := cX3_readFunction) (maxL := 1) (ret := (some .boolean)) (by decide) rfl ?_
  intro p e s m args below meth c s₁ B hml hv
  obtain ⟨rfl, hK, hP, hD0, hR, hRA⟩ := hv
  have C0 : Amb p s m ([.ref (qD 0)] : List Value).toArray meth c cX3_readFunction RX3 1 (some .boolean) G cA (adr ((wRd qD qL qSm zD))) ((wLine cA qL zL)) := ⟨B.exec, B.bytes, B.returns, hml, findClass_of_methodNamed B.named, fun w h => atoms_spec (ws := (.code yX3_readFunction cX3_readFunction 1 (some .boolean) :: wd)) B.pre w (List.mem_cons_of_mem _ h), B.notSynchronized, hK, hR, hRA⟩
  have hl := lv_entry ([.ref (qD 0)]) (n := 1) (Nat.le_of_ble_eq_true rfl)
  rw [lg_entry_eq]
  generalize (lg_sl ([.ref (qD 0)]) ++ List.replicate (1 - (lg_sl ([.ref (qD 0)])).length) Slot.unset).toArray = ls at hl ⊢
  have hl : lv_has ls 1 [(0, .ref (qD 0))] := hl
  exact b_X3_readFunction_0 (W9 := ((wRd qD qL qSm zD))) qD qL qSm zL C0 zD s.heap [] ls hP (adr.self hD0) va_S.rf hl hf
theorem cw_X3_readFunction {R : Room} {s : State} {args : Array Value} {own : String} {index : Nat} (ht : ∀ w ∈ wd, w.before args s = true) (hlink : Cond.methodLink own index yX3_readFunction ∈ wd) (hR : rm_X3_readFunction.frames + 1 ≤ R.frames ∧ 8 + (1 + 11) + rm_X3_readFunction.locals ≤ R.locals) : CallW R s args own RX3 index yX3_readFunction cX3_readFunction 1 (some .boolean) (.code yX3_readFunction cX3_readFunction 1 (some .boolean) :: wd) rm_X3_readFunction 0 0 0 := cwV9 0 ht wi_373 wi_372 wi_8 wi_58 hlink (by decide +kernel) rfl rfl hR
def rm_X3_readPower : Room := { frames := 2, cells := 0, slots := 0, locals := 47 }
def f_X3_readPower_58 (zL : LineS) (zD : RdS) (v1 : Int32) : Option (Int32 × RdS) := some ((1 : Int32), (uR_power zD v1))
set_option maxHeartbeats 4000000 in
set_option maxRecDepth 100000 in
theorem b_X3_readPower_58 {p : Program} {l : Launch} {e : Env} {s : State} {m : MethodId} {args : Array Value} {below : List Frame} {meth : Method} {c : Code} {G : va_G} {cA : Nat → ClassId} {W9 : va_W} (qD : Nat → Nat) (qL : Nat → Nat) (qSm : Nat → Nat) (zL : LineS) (C0 : Amb p s m args meth c cX3_readPower RX3 3 (some .boolean) G cA (adr W9) ((wLine cA qL zL))) {res : Int32 × RdS} : ∀ (zD : RdS) (v1 : Int32) (H : Heap) (locs : List Loc) (ls : Array Slot), va_P G vwCl ((wRd qD qL qSm zD)) H → va_D (adr W9) ((wRd qD qL qSm zD)) → va_S (adr W9) s.heap H locs → lv_has ls 3 [] → f_X3_readPower_58 zL zD v1 = some res → W p l e rm_X3_readPower s m args below meth c H locs 0 0 (MQ below (qWi G W9 ((wRd qD qL qSm res.2)) res.1) args s 0 0 (adr W9)) (F0 m 58 ls [.int v1, .ref (qD 0)]) := by
  obtain ⟨hx, hb, hr, hml, hown, hts, hlocks, hK, hR, hRA⟩ := id C0
  intro zD v1 H locs ls hP hD hS hl hf
  unfold f_X3_readPower_58 at hf
  refine va_put (D := G) (ci := 1) (v := .int v1) (ty := .int) (C := RX3) (T := TX3) (N := 10) hx hb hts fin_X3 tyX3 tyX3_ok nmX3 hown hK.1 hP hD hS 0 rfl rfl 7 (by decide) (hts _ wi_134) (fun _ h9 => h9) rfl (by decide +kernel) rfl rfl (Nat.le_of_ble_eq_true rfl) dX3_readPower_58 (fun H locs hP hD hS => ?_)
  have hP := sR_power_P hP
  have hD := sR_power_D hD
  refine lv_iconst (v := 1) hx hb dX3_readPower_61 (by decide) ?_
  cases hf
  exact W.zret hx hb hr (by decide) (fun t ht hW => ⟨⟨_, (), rfl, rfl, toT ht hP⟩, hS.F ht⟩) hS.2.2 dX3_readPower_62 hlocks
def f_X3_readPower (zL : LineS) (zD : RdS) : Option (Int32 × RdS) := (f_X3_takes zL zD (120 : Int32)).bind fun r_1 => if ¬ r_1.1 = 0 then (f_X3_takes zL (uR_power r_1.2 (1 : Int32)) (94 : Int32)).bind fun r_3 => if r_3.1 = 0 then some ((1 : Int32), r_3.2) else (f_X3_takes zL r_3.2 (45 : Int32)).bind fun r_5 => (f_X3_readNumber zL r_5.2 (0 : Int32) (12 : Int32)).bind fun r_6 => if ¬ r_6.1 = (-1 : Int32) then if r_5.1 = 0 then f_X3_readPower_58 zL r_6.2 r_6.1 else f_X3_readPower_58 zL r_6.2 (-r_6.1) else some ((0 : Int32), r_6.2) else some ((1 : Int32), r_1.2)
set_option maxHeartbeats 4000000 in
set_option maxRecDepth 100000 in
theorem b_X3_readPower_0 {p : Program} {l : Launch} {e : Env} {s : State} {m : MethodId} {args : Array Value} {below : List Frame} {meth : Method} {c : Code} {G : va_G} {cA : Nat → ClassId} {W9 : va_W} (qD : Nat → Nat) (qL : Nat → Nat) (qSm : Nat → Nat) (zL : LineS) (C0 : Amb p s m args meth c cX3_readPower RX3 3 (some .boolean) G cA (adr W9) ((wLine cA qL zL))) {res : Int32 × RdS} : ∀ (zD : RdS) (H : Heap) (locs : List Loc) (ls : Array Slot), va_P G vwCl ((wRd qD qL qSm zD)) H → va_D (adr W9) ((wRd qD qL qSm zD)) → va_S (adr W9) s.heap H locs → lv_has ls 3 [(0, .ref (qD 0))] → f_X3_readPower zL zD = some res → W p l e rm_X3_readPower s m args below meth c H locs 0 0 (MQ below (qWi G W9 ((wRd qD qL qSm res.2)) res.1) args s 0 0 (adr W9)) (F0 m 0 ls []) := by
  obtain ⟨hx, hb, hr, hml, hown, hts, hlocks, hK, hR, hRA⟩ := id C0
  intro zD H locs ls hP hD hS hl hf
  unfold f_X3_readPower at hf
  refine lv_aload_n hx hb dX3_readPower_0 rfl (lv_at hl 0 rfl) ?_
  refine lv_bipush (v := (120 : Int32)) hx hb dX3_readPower_1 (by decide) ?_
  obtain ⟨r_1, hr_1, hf⟩ := obd hf
  refine cWiV (As := [.int (120 : Int32)]) (rest := []) (W1 := ((wRd qD qL qSm r_1.2))) ⟨hx, hb, hml, hown, hts⟩ (m_X3_takes l G cA qD qL qSm zL zD (120 : Int32) r_1 hr_1) (cw_X3_takes hts wi_335 ⟨Nat.le_of_ble_eq_true rfl, Nat.le_of_ble_eq_true rfl⟩) hK hP hD hS [0] [1] rfl rfl rfl (by decide) rfl (pk (roP hR hRA hS) [0, 1] rfl) (dj_ro hD hRA [0, 1] (rfl : [0].map _ = _) rfl) (va_recv hK.1 hP (ci := 1) (q0 := 0) rfl rfl) rfl hl.1 rfl (Nat.le_of_ble_eq_true rfl) dX3_readPower_3 ⟨Nat.zero_le _, Nat.zero_le _⟩ (fun H locs hP hD hS => ?_)
  refine lv_if_ne (tgt := 11) hx hb dX3_readPower_6 (by decide) (fun c_2 => ?_) (fun c_2 => ?_)
  · rw [if_pos (c_2)] at hf
    refine lv_aload_n hx hb dX3_readPower_11 rfl (lv_at hl 0 rfl) ?_
    refine lv_iconst (v := 1) hx hb dX3_readPower_12 (by decide) ?_
    refine va_put (D := G) (ci := 1) (v := .int (1 : Int32)) (ty := .int) (C := RX3) (T := TX3) (N := 10) hx hb hts fin_X3 tyX3 tyX3_ok nmX3 hown hK.1 hP hD hS 0 rfl rfl 7 (by decide) (hts _ wi_134) (fun _ h9 => h9) rfl (by decide +kernel) rfl rfl (Nat.le_of_ble_eq_true rfl) dX3_readPower_13 (fun H locs hP hD hS => ?_)
    have hP := sR_power_P hP
    have hD := sR_power_D hD
    refine lv_aload_n hx hb dX3_readPower_16 rfl (lv_at hl 0 rfl) ?_
    refine lv_bipush (v := (94 : Int32)) hx hb dX3_readPower_17 (by decide) ?_
    obtain ⟨r_3, hr_3, hf⟩ := obd hf
    refine cWiV (As := [.int (94 : Int32)]) (rest := []) (W1 := ((wRd qD qL qSm r_3.2))) ⟨hx, hb, hml, hown, hts⟩ (m_X3_takes l G cA qD qL qSm zL (uR_power r_1.2 (1 : Int32)) (94 : Int32) r_3 hr_3) (cw_X3_takes hts wi_335 ⟨Nat.le_of_ble_eq_true rfl, Nat.le_of_ble_eq_true rfl⟩) hK hP hD hS [0] [1] rfl rfl rfl (by decide) rfl (pk (roP hR hRA hS) [0, 1] rfl) (dj_ro hD hRA [0, 1] (rfl : [0].map _ = _) rfl) (va_recv hK.1 hP (ci := 1) (q0 := 0) rfl rfl) rfl hl.1 rfl (Nat.le_of_ble_eq_true rfl) dX3_readPower_19 ⟨Nat.zero_le _, Nat.zero_le _⟩ (fun H locs hP hD hS => ?_)
    refine lv_if_eq (tgt := 61) hx hb dX3_readPower_22 (by decide) (fun c_4 => ?_) (fun c_4 => ?_)
    · rw [if_pos (c_4)] at hf
      refine lv_iconst (v := 1) hx hb dX3_readPower_61 (by decide) ?_
      cases hf
      exact W.zret hx hb hr (by decide) (fun t ht hW => ⟨⟨_, (), rfl, rfl, toT ht hP⟩, hS.F ht⟩) hS.2.2 dX3_readPower_62 hlocks
    · rw [if_neg (c_4)] at hf
      refine lv_aload_n hx hb dX3_readPower_25 rfl (lv_at hl 0 rfl) ?_
      refine lv_bipush (v := (45 : Int32)) hx hb dX3_readPower_26 (by decide) ?_
      obtain ⟨r_5, hr_5, hf⟩ := obd hf
      refine cWiV (As := [.int (45 : Int32)]) (rest := []) (W1 := ((wRd qD qL qSm r_5.2))) ⟨hx, hb, hml, hown, hts⟩ (m_X3_takes l G cA qD qL qSm zL r_3.2 (45 : Int32) r_5 hr_5) (cw_X3_takes hts wi_335 ⟨Nat.le_of_ble_eq_true rfl, Nat.le_of_ble_eq_true rfl⟩) hK hP hD hS [0] [1] rfl rfl rfl (by decide) rfl (pk (roP hR hRA hS) [0, 1] rfl) (dj_ro hD hRA [0, 1] (rfl : [0].map _ = _) rfl) (va_recv hK.1 hP (ci := 1) (q0 := 0) rfl rfl) rfl hl.1 rfl (Nat.le_of_ble_eq_true rfl) dX3_readPower_28 ⟨Nat.zero_le _, Nat.zero_le _⟩ (fun H locs hP hD hS => ?_)
      refine lv_istore_n (lv' := [(1, .int r_5.1), (0, .ref (qD 0))]) hx hb dX3_readPower_31 rfl hl (by decide) rfl (fun ls hl => ?_)
      refine lv_aload_n hx hb dX3_readPower_32 rfl (lv_at hl 1 rfl) ?_
      refine lv_iconst (v := 0) hx hb dX3_readPower_33 (by decide) ?_
      refine lv_bipush (v := (12 : Int32)) hx hb dX3_readPower_34 (by decide) ?_
      obtain ⟨r_6, hr_6, hf⟩ := obd hf
      refine cWiV (As := [.int (0 : Int32), .int (12 : Int32)]) (rest := []) (W1 := ((wRd qD qL qSm r_6.2))) ⟨hx, hb, hml, hown, hts⟩ (m_X3_readNumber l G cA qD qL qSm zL r_5.2 (0 : Int32) (12 : Int32) r_6 hr_6) (cw_X3_readNumber hts wi_354 ⟨Nat.le_of_ble_eq_true rfl, Nat.le_of_ble_eq_true rfl⟩) hK hP hD hS [0] [1] rfl rfl rfl (by decide) rfl (pk (roP hR hRA hS) [0, 1] rfl) (dj_ro hD hRA [0, 1] (rfl : [0].map _ = _) rfl) (va_recv hK.1 hP (ci := 1) (q0 := 0) rfl rfl) rfl hl.1 rfl (Nat.le_of_ble_eq_true rfl) dX3_readPower_36 ⟨Nat.zero_le _, Nat.zero_le _⟩ (fun H locs hP hD hS => ?_)
      refine lv_istore_n (lv' := [(2, .int r_6.1), (1, .int r_5.1), (0, .ref (qD 0))]) hx hb dX3_readPower_39 rfl hl (by decide) rfl (fun ls hl => ?_)
      refine lv_iload_n hx hb dX3_readPower_40 rfl (lv_at hl 0 rfl) ?_
      refine lv_iconst (v := (-1)) hx hb dX3_readPower_41 (by decide) ?_
      refine lv_icmp_ne (tgt := 47) hx hb dX3_readPower_42 (by decide) (fun c_7 => ?_) (fun c_7 => ?_)
      · rw [if_pos (c_7)] at hf
        refine lv_aload_n hx hb dX3_readPower_47 rfl (lv_at hl 2 rfl) ?_
        refine lv_iload_n hx hb dX3_readPower_48 rfl (lv_at hl 1 rfl) ?_
        refine lv_if_eq (tgt := 57) hx hb dX3_readPower_49 (by decide) (fun c_8 => ?_) (fun c_8 => ?_)
        · rw [if_pos (c_8)] at hf
          refine lv_iload_n hx hb dX3_readPower_57 rfl (lv_at hl 0 rfl) ?_
          exact b_X3_readPower_58 qD qL qSm zL C0  r_6.2 r_6.1 H locs ls hP hD hS (lv_sub hl [] rfl) hf
        · rw [if_neg (c_8)] at hf
          refine lv_iload_n hx hb dX3_readPower_52 rfl (lv_at hl 0 rfl) ?_
          refine lv_ineg hx hb dX3_readPower_53 ?_
          refine lv_goto (tgt := 58) hx hb dX3_readPower_54 (by decide) ?_
          exact b_X3_readPower_58 qD qL qSm zL C0  r_6.2 (-r_6.1) H locs ls hP hD hS (lv_sub hl [] rfl) hf
      · rw [if_neg (not_not_intro c_7)] at hf
        refine lv_iconst (v := 0) hx hb dX3_readPower_45 (by decide) ?_
        cases hf
        exact W.zret hx hb hr (by decide) (fun t ht hW => ⟨⟨_, (), rfl, rfl, toT ht hP⟩, hS.F ht⟩) hS.2.2 dX3_readPower_46 hlocks
  · rw [if_neg (not_not_intro c_2)] at hf
    refine lv_iconst (v := 1) hx hb dX3_readPower_9 (by decide) ?_
    cases hf
    exact W.zret hx hb hr (by decide) (fun t ht hW => ⟨⟨_, (), rfl, rfl, toT ht hP⟩, hS.F ht⟩) hS.2.2 dX3_readPower_10 hlocks

set_option maxRecDepth 100000 in
theorem m_X3_readPower (l : Launch) (G : va_G) (cA : Nat → ClassId) (qD : Nat → Nat) (qL : Nat → Nat) (qSm : Nat → Nat) (zL : LineS) (zD : RdS) (res : Int32 × RdS) (hf : f_X3_readPower zL zD = some res) : MWi l yX3_readPower (.code yX3_readPower cX3_readPower 3 (some .boolean) :: wd) rm_X3_readPower G cA [.ref (qD 0)] ((wRd qD qL qSm zD)) ((wLine cA qL zL)) ((wRd qD qL qSm res.2)) res.1 := by
  refine Met.ofW (cc := cX3_readPower) (maxL := 3) (ret := (some .boolean)) (by decide) rfl ?_
  intro p e s m args below meth c s₁ B hml hv
  obtain ⟨rfl, hK, hP, hD0, hR, hRA⟩ := hv
  have C0 : Amb p s m ([.ref (qD 0)] : List Value).toArray meth c cX3_readPower RX3 3 (some .boolean) G cA (adr ((wRd qD qL qSm zD))) ((wLine cA qL zL)) := ⟨B.exec, B.bytes, B.returns, hml, findClass_of_methodNamed B.named, fun w h => atoms_spec (ws := (.code yX3_readPower cX3_readPower 3 (some .boolean) :: wd)) B.pre w (List.mem_cons_of_mem _ h), B.notSynchronized, hK, hR, hRA⟩
  have hl := lv_entry ([.ref (qD 0)]) (n := 3) (Nat.le_of_ble_eq_true rfl)
  rw [lg_entry_eq]
  generalize (lg_sl ([.ref (qD 0)]) ++ List.replicate (3 - (lg_sl ([.ref (qD 0)])).length) Slot.unset).toArray = ls at hl ⊢
  have hl : lv_has ls 3 [(0, .ref (qD 0))] := hl
  exact b_X3_readPower_0 (W9 := ((wRd qD qL qSm zD))) qD qL qSm zL C0 zD s.heap [] ls hP (adr.self hD0) va_S.rf hl hf
theorem cw_X3_readPower {R : Room} {s : State} {args : Array Value} {own : String} {index : Nat} (ht : ∀ w ∈ wd, w.before args s = true) (hlink : Cond.methodLink own index yX3_readPower ∈ wd) (hR : rm_X3_readPower.frames + 1 ≤ R.frames ∧ 8 + (3 + 11) + rm_X3_readPower.locals ≤ R.locals) : CallW R s args own RX3 index yX3_readPower cX3_readPower 3 (some .boolean) (.code yX3_readPower cX3_readPower 3 (some .boolean) :: wd) rm_X3_readPower 0 0 0 := cwV9 0 ht wi_369 wi_368 wi_7 wi_58 hlink (by decide +kernel) rfl rfl hR
def rm_X3_readCoefficient : Room := { frames := 2, cells := 0, slots := 0, locals := 47 }
def f_X3_readCoefficient (zL : LineS) (zD : RdS) : Option (Int32 × RdS) := (f_X3_next zL zD).bind fun r_1 => (f_X3_isDigit r_1.1).bind fun r_2 => if ¬ r_2 = 0 then (f_X3_readNumber zL r_1.2 (0 : Int32) (999 : Int32)).bind fun r_4 => (f_X3_takes zL (uR_top r_4.2 r_4.1.toInt64) (47 : Int32)).bind fun r_5 => if r_5.1 = 0 then some ((1 : Int32), r_5.2) else (f_X3_readNumber zL r_5.2 (1 : Int32) (999 : Int32)).bind fun r_7 => if ¬ r_7.1 = (-1 : Int32) then some ((1 : Int32), (uR_bottom r_7.2 r_7.1.toInt64)) else some ((0 : Int32), r_7.2) else some ((1 : Int32), r_1.2)
set_option maxHeartbeats 4000000 in
set_option maxRecDepth 100000 in
theorem b_X3_readCoefficient_0 {p : Program} {l : Launch} {e : Env} {s : State} {m : MethodId} {args : Array Value} {below : List Frame} {meth : Method} {c : Code} {G : va_G} {cA : Nat → ClassId} {W9 : va_W} (qD : Nat → Nat) (qL : Nat → Nat) (qSm : Nat → Nat) (zL : LineS) (C0 : Amb p s m args meth c cX3_readCoefficient RX3 2 (some .boolean) G cA (adr W9) ((wLine cA qL zL))) {res : Int32 × RdS} : ∀ (zD : RdS) (H : Heap) (locs : List Loc) (ls : Array Slot), va_P G vwCl ((wRd qD qL qSm zD)) H → va_D (adr W9) ((wRd qD qL qSm zD)) → va_S (adr W9) s.heap H locs → lv_has ls 2 [(0, .ref (qD 0))] → f_X3_readCoefficient zL zD = some res → W p l e rm_X3_readCoefficient s m args below meth c H locs 0 0 (MQ below (qWi G W9 ((wRd qD qL qSm res.2)) res.1) args s 0 0 (adr W9)) (F0 m 0 ls []) := by
  obtain ⟨hx, hb, hr, hml, hown, hts, hlocks, hK, hR, hRA⟩ := id C0
  intro zD H locs ls hP hD hS hl hf
  unfold f_X3_readCoefficient at hf
  refine lv_aload_n hx hb dX3_readCoefficient_0 rfl (lv_at hl 0 rfl) ?_
  obtain ⟨r_1, hr_1, hf⟩ := obd hf
  refine cWiV (As := []) (rest := []) (W1 := ((wRd qD qL qSm r_1.2))) ⟨hx, hb, hml, hown, hts⟩ (m_X3_next l G cA qD qL qSm zL zD r_1 hr_1) (cw_X3_next hts wi_339 ⟨Nat.le_of_ble_eq_true rfl, Nat.le_of_ble_eq_true rfl⟩) hK hP hD hS [0] [1] rfl rfl rfl (by decide) rfl (pk (roP hR hRA hS) [0, 1] rfl) (dj_ro hD hRA [0, 1] (rfl : [0].map _ = _) rfl) (va_recv hK.1 hP (ci := 1) (q0 := 0) rfl rfl) rfl hl.1 rfl (Nat.le_of_ble_eq_true rfl) dX3_readCoefficient_1 ⟨Nat.zero_le _, Nat.zero_le _⟩ (fun H locs hP hD hS => ?_)
  obtain ⟨r_2, hr_2, hf⟩ := obd hf
  refine cRiS (As := [.int r_1.1]) (rest := []) ⟨hx, hb, hml, hown, hts⟩ (m_X3_isDigit l G cA r_1.1 r_2 hr_2) (cw_X3_isDigit hts wi_351 ⟨Nat.le_of_ble_eq_true rfl, Nat.le_of_ble_eq_true rfl⟩) hK va_Pnil rfl hl.1 rfl (Nat.le_of_ble_eq_true rfl) dX3_readCoefficient_4 ⟨Nat.zero_le _, Nat.zero_le _⟩ ?_
  refine lv_if_ne (tgt := 12) hx hb dX3_readCoefficient_7 (by decide) (fun c_3 => ?_) (fun c_3 => ?_)
  · rw [if_pos (c_3)] at hf
    refine lv_aload_n hx hb dX3_readCoefficient_12 rfl (lv_at hl 0 rfl) ?_
    refine lv_aload_n hx hb dX3_readCoefficient_13 rfl (lv_at hl 0 rfl) ?_
    refine lv_iconst (v := 0) hx hb dX3_readCoefficient_14 (by decide) ?_
    refine lv_sipush (v := (999 : Int32)) hx hb dX3_readCoefficient_15 (by decide) ?_
    obtain ⟨r_4, hr_4, hf⟩ := obd hf
    refine cWiV (As := [.int (0 : Int32), .int (999 : Int32)]) (rest := [.ref (qD 0)]) (W1 := ((wRd qD qL qSm r_4.2))) ⟨hx, hb, hml, hown, hts⟩ (m_X3_readNumber l G cA qD qL qSm zL r_1.2 (0 : Int32) (999 : Int32) r_4 hr_4) (cw_X3_readNumber hts wi_354 ⟨Nat.le_of_ble_eq_true rfl, Nat.le_of_ble_eq_true rfl⟩) hK hP hD hS [0] [1] rfl rfl rfl (by decide) rfl (pk (roP hR hRA hS) [0, 1] rfl) (dj_ro hD hRA [0, 1] (rfl : [0].map _ = _) rfl) (va_recv hK.1 hP (ci := 1) (q0 := 0) rfl rfl) rfl hl.1 rfl (Nat.le_of_ble_eq_true rfl) dX3_readCoefficient_18 ⟨Nat.zero_le _, Nat.zero_le _⟩ (fun H locs hP hD hS => ?_)
    refine lv_i2l (v := r_4.1.toInt64) hx hb dX3_readCoefficient_21 rfl ?_
    refine va_put (D := G) (ci := 1) (v := .long r_4.1.toInt64) (ty := .long) (C := RX3) (T := TX3) (N := 10) hx hb hts fin_X3 tyX3 tyX3_ok nmX3 hown hK.1 hP hD hS 0 rfl rfl 5 (by decide) (hts _ wi_132) (fun _ h9 => h9) rfl (by decide +kernel) rfl rfl (Nat.le_of_ble_eq_true rfl) dX3_readCoefficient_22 (fun H locs hP hD hS => ?_)
    have hP := sR_top_P hP
    have hD := sR_top_D hD
    refine lv_aload_n hx hb dX3_readCoefficient_25 rfl (lv_at hl 0 rfl) ?_
    refine lv_bipush (v := (47 : Int32)) hx hb dX3_readCoefficient_26 (by decide) ?_
    obtain ⟨r_5, hr_5, hf⟩ := obd hf
    refine cWiV (As := [.int (47 : Int32)]) (rest := []) (W1 := ((wRd qD qL qSm r_5.2))) ⟨hx, hb, hml, hown, hts⟩ (m_X3_takes l G cA qD qL qSm zL (uR_top r_4.2 r_4.1.toInt64) (47 : Int32) r_5 hr_5) (cw_X3_takes hts wi_335 ⟨Nat.le_of_ble_eq_true rfl, Nat.le_of_ble_eq_true rfl⟩) hK hP hD hS [0] [1] rfl rfl rfl (by decide) rfl (pk (roP hR hRA hS) [0, 1] rfl) (dj_ro hD hRA [0, 1] (rfl : [0].map _ = _) rfl) (va_recv hK.1 hP (ci := 1) (q0 := 0) rfl rfl) rfl hl.1 rfl (Nat.le_of_ble_eq_true rfl) dX3_readCoefficient_28 ⟨Nat.zero_le _, Nat.zero_le _⟩ (fun H locs hP hD hS => ?_)
    refine lv_if_eq (tgt := 56) hx hb dX3_readCoefficient_31 (by decide) (fun c_6 => ?_) (fun c_6 => ?_)
    · rw [if_pos (c_6)] at hf
      refine lv_iconst (v := 1) hx hb dX3_readCoefficient_56 (by decide) ?_
      cases hf
      exact W.zret hx hb hr (by decide) (fun t ht hW => ⟨⟨_, (), rfl, rfl, toT ht hP⟩, hS.F ht⟩) hS.2.2 dX3_readCoefficient_57 hlocks
    · rw [if_neg (c_6)] at hf
      refine lv_aload_n hx hb dX3_readCoefficient_34 rfl (lv_at hl 0 rfl) ?_
      refine lv_iconst (v := 1) hx hb dX3_readCoefficient_35 (by decide) ?_
      refine lv_sipush (v := (999 : Int32)) hx hb dX3_readCoefficient_36 (by decide) ?_
      obtain ⟨r_7, hr_7, hf⟩ := obd hf
      refine cWiV (As := [.int (1 : Int32), .int (999 : Int32)]) (rest := []) (W1 := ((wRd qD qL qSm r_7.2))) ⟨hx, hb, hml, hown, hts⟩ (m_X3_readNumber l G cA qD qL qSm zL r_5.2 (1 : Int32) (999 : Int32) r_7 hr_7) (cw_X3_readNumber hts wi_354 ⟨Nat.le_of_ble_eq_true rfl, Nat.le_of_ble_eq_true rfl⟩) hK hP hD hS [0] [1] rfl rfl rfl (by decide) rfl (pk (roP hR hRA hS) [0, 1] rfl) (dj_ro hD hRA [0, 1] (rfl : [0].map _ = _) rfl) (va_recv hK.1 hP (ci := 1) (q0 := 0) rfl rfl) rfl hl.1 rfl (Nat.le_of_ble_eq_true rfl) dX3_readCoefficient_39 ⟨Nat.zero_le _, Nat.zero_le _⟩ (fun H locs hP hD hS => ?_)
      refine lv_istore_n (lv' := [(1, .int r_7.1), (0, .ref (qD 0))]) hx hb dX3_readCoefficient_42 rfl hl (by decide) rfl (fun ls hl => ?_)
      refine lv_iload_n hx hb dX3_readCoefficient_43 rfl (lv_at hl 0 rfl) ?_
      refine lv_iconst (v := (-1)) hx hb dX3_readCoefficient_44 (by decide) ?_
      refine lv_icmp_ne (tgt := 50) hx hb dX3_readCoefficient_45 (by decide) (fun c_8 => ?_) (fun c_8 => ?_)
      · rw [if_pos (c_8)] at hf
        refine lv_aload_n hx hb dX3_readCoefficient_50 rfl (lv_at hl 1 rfl) ?_
        refine lv_iload_n hx hb dX3_readCoefficient_51 rfl (lv_at hl 0 rfl) ?_
        refine lv_i2l (v := r_7.1.toInt64) hx hb dX3_readCoefficient_52 rfl ?_
        refine va_put (D := G) (ci := 1) (v := .long r_7.1.toInt64) (ty := .long) (C := RX3) (T := TX3) (N := 10) hx hb hts fin_X3 tyX3 tyX3_ok nmX3 hown hK.1 hP hD hS 0 rfl rfl 6 (by decide) (hts _ wi_133) (fun _ h9 => h9) rfl (by decide +kernel) rfl rfl (Nat.le_of_ble_eq_true rfl) dX3_readCoefficient_53 (fun H locs hP hD hS => ?_)
        have hP := sR_bottom_P hP
        have hD := sR_bottom_D hD
        refine lv_iconst (v := 1) hx hb dX3_readCoefficient_56 (by decide) ?_
        cases hf
        exact W.zret hx hb hr (by decide) (fun t ht hW => ⟨⟨_, (), rfl, rfl, toT ht hP⟩, hS.F ht⟩) hS.2.2 dX3_readCoefficient_57 hlocks
      · rw [if_neg (not_not_intro c_8)] at hf
        refine lv_iconst (v := 0) hx hb dX3_readCoefficient_48 (by decide) ?_
        cases hf
        exact W.zret hx hb hr (by decide) (fun t ht hW => ⟨⟨_, (), rfl, rfl, toT ht hP⟩, hS.F ht⟩) hS.2.2 dX3_readCoefficient_49 hlocks
  · rw [if_neg (not_not_intro c_3)] at hf
    refine lv_iconst (v := 1) hx hb dX3_readCoefficient_10 (by decide) ?_
    cases hf
    exact W.zret hx hb hr (by decide) (fun t ht hW => ⟨⟨_, (), rfl, rfl, toT ht hP⟩, hS.F ht⟩) hS.2.2 dX3_readCoefficient_11 hlocks

set_option maxRecDepth 100000 in
theorem m_X3_readCoefficient (l : Launch) (G : va_G) (cA : Nat → ClassId) (qD : Nat → Nat) (qL : Nat → Nat) (qSm : Nat → Nat) (zL : LineS) (zD : RdS) (res : Int32 × RdS) (hf : f_X3_readCoefficient zL zD = some res) : MWi l yX3_readCoefficient (.code yX3_readCoefficient cX3_readCoefficient 2 (some .boolean) :: wd) rm_X3_readCoefficient G cA [.ref (qD 0)] ((wRd qD qL qSm zD)) ((wLine cA qL zL)) ((wRd qD qL qSm res.2)) res.1 := by
  refine Met.ofW (cc := cX3_readCoefficient) (maxL := 2) (ret := (some .boolean)) (by decide) rfl ?_
  intro p e s m args below meth c s₁ B hml hv
  obtain ⟨rfl, hK, hP, hD0, hR, hRA⟩ := hv
  have C0 : Amb p s m ([.ref (qD 0)] : List Value).toArray meth c cX3_readCoefficient RX3 2 (some .boolean) G cA (adr ((wRd qD qL qSm zD))) ((wLine cA qL zL)) := ⟨B.exec, B.bytes, B.returns, hml, findClass_of_methodNamed B.named, fun w h => atoms_spec (ws := (.code yX3_readCoefficient cX3_readCoefficient 2 (some .boolean) :: wd)) B.pre w (List.mem_cons_of_mem _ h), B.notSynchronized, hK, hR, hRA⟩
  have hl := lv_entry ([.ref (qD 0)]) (n := 2) (Nat.le_of_ble_eq_true rfl)
  rw [lg_entry_eq]
  generalize (lg_sl ([.ref (qD 0)]) ++ List.replicate (2 - (lg_sl ([.ref (qD 0)])).length) Slot.unset).toArray = ls at hl ⊢
  have hl : lv_has ls 2 [(0, .ref (qD 0))] := hl
  exact b_X3_readCoefficient_0 (W9 := ((wRd qD qL qSm zD))) qD qL qSm zL C0 zD s.heap [] ls hP (adr.self hD0) va_S.rf hl hf
theorem cw_X3_readCoefficient {R : Room} {s : State} {args : Array Value} {own : String} {index : Nat} (ht : ∀ w ∈ wd, w.before args s = true) (hlink : Cond.methodLink own index yX3_readCoefficient ∈ wd) (hR : rm_X3_readCoefficient.frames + 1 ≤ R.frames ∧ 8 + (2 + 11) + rm_X3_readCoefficient.locals ≤ R.locals) : CallW R s args own RX3 index yX3_readCoefficient cX3_readCoefficient 2 (some .boolean) (.code yX3_readCoefficient cX3_readCoefficient 2 (some .boolean) :: wd) rm_X3_readCoefficient 0 0 0 := cwV9 0 ht wi_350 wi_349 wi_4 wi_58 hlink (by decide +kernel) rfl rfl hR
def rm_X3_readTerm : Room := { frames := 4, cells := 0, slots := 0, locals := 89 }
def f_X3_readTerm_99 (zL : LineS) (zD : RdS) : Option (Int32 × RdS) := some ((1 : Int32), zD)
set_option maxHeartbeats 4000000 in
set_option maxRecDepth 100000 in
theorem b_X3_readTerm_99 {p : Program} {l : Launch} {e : Env} {s : State} {m : MethodId} {args : Array Value} {below : List Frame} {meth : Method} {c : Code} {G : va_G} {cA : Nat → ClassId} {W9 : va_W} (qD : Nat → Nat) (qL : Nat → Nat) (qSm : Nat → Nat) (zL : LineS) (C0 : Amb p s m args meth c cX3_readTerm RX3 3 (some .boolean) G cA (adr W9) ((wLine cA qL zL))) {res : Int32 × RdS} : ∀ (zD : RdS) (H : Heap) (locs : List Loc) (ls : Array Slot), va_P G vwCl ((wRd qD qL qSm zD)) H → va_D (adr W9) ((wRd qD qL qSm zD)) → va_S (adr W9) s.heap H locs → lv_has ls 3 [] → f_X3_readTerm_99 zL zD = some res → W p l e rm_X3_readTerm s m args below meth c H locs 0 0 (MQ below (qWi G W9 ((wRd qD qL qSm res.2)) res.1) args s 0 0 (adr W9)) (F0 m 99 ls []) := by
  obtain ⟨hx, hb, hr, hml, hown, hts, hlocks, hK, hR, hRA⟩ := id C0
  intro zD H locs ls hP hD hS hl hf
  unfold f_X3_readTerm_99 at hf
  refine lv_iconst (v := 1) hx hb dX3_readTerm_99 (by decide) ?_
  refine lv_goto (tgt := 104) hx hb dX3_readTerm_100 (by decide) ?_
  cases hf
  exact W.zret hx hb hr (by decide) (fun t ht hW => ⟨⟨_, (), rfl, rfl, toT ht hP⟩, hS.F ht⟩) hS.2.2 dX3_readTerm_104 hlocks
def f_X3_readTerm_75 (zL : LineS) (zD : RdS) (x2 : Int32) (v1 : Int64) : Option (Int32 × RdS) := if x2 < (gR_at (uR_top zD v1)) then f_X3_readTerm_99 zL (uR_top zD v1) else (f_X3_refuse (uR_top zD v1) (-2 : Int32) (gR_at (uR_top zD v1))).bind fun r_2 => if r_2.1 = 0 then some ((0 : Int32), r_2.2) else f_X3_readTerm_99 zL r_2.2
set_option maxHeartbeats 4000000 in
set_option maxRecDepth 100000 in
theorem b_X3_readTerm_75 {p : Program} {l : Launch} {e : Env} {s : State} {m : MethodId} {args : Array Value} {below : List Frame} {meth : Method} {c : Code} {G : va_G} {cA : Nat → ClassId} {W9 : va_W} (qD : Nat → Nat) (qL : Nat → Nat) (qSm : Nat → Nat) (zL : LineS) (C0 : Amb p s m args meth c cX3_readTerm RX3 3 (some .boolean) G cA (adr W9) ((wLine cA qL zL))) {res : Int32 × RdS} : ∀ (zD : RdS) (x2 : Int32) (v1 : Int64) (H : Heap) (locs : List Loc) (ls : Array Slot), va_P G vwCl ((wRd qD qL qSm zD)) H → va_D (adr W9) ((wRd qD qL qSm zD)) → va_S (adr W9) s.heap H locs → lv_has ls 3 [(0, .ref (qD 0)), (2, .int x2)] → f_X3_readTerm_75 zL zD x2 v1 = some res → W p l e rm_X3_readTerm s m args below meth c H locs 0 0 (MQ below (qWi G W9 ((wRd qD qL qSm res.2)) res.1) args s 0 0 (adr W9)) (F0 m 75 ls [.long v1, .ref (qD 0)]) := by
  obtain ⟨hx, hb, hr, hml, hown, hts, hlocks, hK, hR, hRA⟩ := id C0
  intro zD x2 v1 H locs ls hP hD hS hl hf
  unfold f_X3_readTerm_75 at hf
  refine va_put (D := G) (ci := 1) (v := .long v1) (ty := .long) (C := RX3) (T := TX3) (N := 10) hx hb hts fin_X3 tyX3 tyX3_ok nmX3 hown hK.1 hP hD hS 0 rfl rfl 5 (by decide) (hts _ wi_132) (fun _ h9 => h9) rfl (by decide +kernel) rfl rfl (Nat.le_of_ble_eq_true rfl) dX3_readTerm_75 (fun H locs hP hD hS => ?_)
  have hP := sR_top_P hP
  have hD := sR_top_D hD
  refine lv_aload_n hx hb dX3_readTerm_78 rfl (lv_at hl 0 rfl) ?_
  refine va_get (D := G) (ci := 1) (v := .int (gR_at (uR_top zD v1))) (C := RX3) (T := TX3) (N := 10) hx hb hts fin_X3 hown hK.1 hP 0 rfl rfl 2 (by decide) (hts _ wi_129) (fun _ h9 => h9) rfl dX3_readTerm_79 ?_
  refine lv_iload_n hx hb dX3_readTerm_82 rfl (lv_at hl 1 rfl) ?_
  refine lv_icmp_gt (tgt := 99) hx hb dX3_readTerm_83 (by decide) (fun c_1 => ?_) (fun c_1 => ?_)
  · rw [if_pos (c_1)] at hf
    exact b_X3_readTerm_99 qD qL qSm zL C0  (uR_top zD v1) H locs ls hP hD hS (lv_sub hl [] rfl) hf
  · rw [if_neg (c_1)] at hf
    refine lv_aload_n hx hb dX3_readTerm_86 rfl (lv_at hl 0 rfl) ?_
    refine lv_bipush (v := (-2 : Int32)) hx hb dX3_readTerm_87 (by decide) ?_
    refine lv_aload_n hx hb dX3_readTerm_89 rfl (lv_at hl 0 rfl) ?_
    refine va_get (D := G) (ci := 1) (v := .int (gR_at (uR_top zD v1))) (C := RX3) (T := TX3) (N := 10) hx hb hts fin_X3 hown hK.1 hP 0 rfl rfl 2 (by decide) (hts _ wi_129) (fun _ h9 => h9) rfl dX3_readTerm_90 ?_
    obtain ⟨r_2, hr_2, hf⟩ := obd hf
    refine cWiV (As := [.int (-2 : Int32), .int (gR_at (uR_top zD v1))]) (rest := []) (W1 := ((wRd qD qL qSm r_2.2))) ⟨hx, hb, hml, hown, hts⟩ (m_X3_refuse l G cA qD qL qSm (uR_top zD v1) (-2 : Int32) (gR_at (uR_top zD v1)) r_2 hr_2) (cw_X3_refuse hts wi_358 ⟨Nat.le_of_ble_eq_true rfl, Nat.le_of_ble_eq_true rfl⟩) hK hP hD hS [0] [1] rfl rfl rfl (by decide) rfl va_Pnil dj_nil (va_recv hK.1 hP (ci := 1) (q0 := 0) rfl rfl) rfl hl.1 rfl (Nat.le_of_ble_eq_true rfl) dX3_readTerm_93 ⟨Nat.zero_le _, Nat.zero_le _⟩ (fun H locs hP hD hS => ?_)
    refine lv_if_eq (tgt := 103) hx hb dX3_readTerm_96 (by decide) (fun c_3 => ?_) (fun c_3 => ?_)
    · rw [if_pos (c_3)] at hf
      refine lv_iconst (v := 0) hx hb dX3_readTerm_103 (by decide) ?_
      cases hf
      exact W.zret hx hb hr (by decide) (fun t ht hW => ⟨⟨_, (), rfl, rfl, toT ht hP⟩, hS.F ht⟩) hS.2.2 dX3_readTerm_104 hlocks
    · rw [if_neg (c_3)] at hf
      exact b_X3_readTerm_99 qD qL qSm zL C0  r_2.2 H locs ls hP hD hS (lv_sub hl [] rfl) hf
def f_X3_readTerm (zL : LineS) (zD : RdS) (a1 : Int32) : Option (Int32 × RdS) := (f_X3_next zL (uR_arg (uR_kind (uR_power (uR_bottom (uR_top zD (1 : Int64)) (1 : Int64)) (0 : Int32)) (0 : Int32)) (0 : Int32))).bind fun r_1 => (some ((gR_at r_1.2))).bind fun y_2 => (f_X3_readCoefficient zL r_1.2).bind fun r_3 => if r_3.1 = 0 then some ((0 : Int32), r_3.2) else (f_X3_readPower zL r_3.2).bind fun r_5 => if r_5.1 = 0 then some ((0 : Int32), r_5.2) else (f_X3_readFunction zL r_5.2).bind fun r_7 => if ¬ r_7.1 = 0 then if a1 = 0 then f_X3_readTerm_75 zL r_7.2 y_2 (gR_top r_7.2) else f_X3_readTerm_75 zL r_7.2 y_2 (-(gR_top r_7.2)) else some ((0 : Int32), r_7.2)
set_option maxHeartbeats 4000000 in
set_option maxRecDepth 100000 in
theorem b_X3_readTerm_0 {p : Program} {l : Launch} {e : Env} {s : State} {m : MethodId} {args : Array Value} {below : List Frame} {meth : Method} {c : Code} {G : va_G} {cA : Nat → ClassId} {W9 : va_W} (qD : Nat → Nat) (qL : Nat → Nat) (qSm : Nat → Nat) (zL : LineS) (C0 : Amb p s m args meth c cX3_readTerm RX3 3 (some .boolean) G cA (adr W9) ((wLine cA qL zL))) {res : Int32 × RdS} : ∀ (zD : RdS) (a1 : Int32) (H : Heap) (locs : List Loc) (ls : Array Slot), va_P G vwCl ((wRd qD qL qSm zD)) H → va_D (adr W9) ((wRd qD qL qSm zD)) → va_S (adr W9) s.heap H locs → lv_has ls 3 [(0, .ref (qD 0)), (1, .int a1)] → f_X3_readTerm zL zD a1 = some res → W p l e rm_X3_readTerm s m args below meth c H locs 0 0 (MQ below (qWi G W9 ((wRd qD qL qSm res.2)) res.1) args s 0 0 (adr W9)) (F0 m 0 ls []) := by
  obtain ⟨hx, hb, hr, hml, hown, hts, hlocks, hK, hR, hRA⟩ := id C0
  intro zD a1 H locs ls hP hD hS hl hf
  unfold f_X3_readTerm at hf
  refine lv_aload_n hx hb dX3_readTerm_0 rfl (lv_at hl 0 rfl) ?_
  refine lv_lconst (v := (1 : Int64)) hx hb dX3_readTerm_1 (by decide) ?_
  refine va_put (D := G) (ci := 1) (v := .long (1 : Int64)) (ty := .long) (C := RX3) (T := TX3) (N := 10) hx hb hts fin_X3 tyX3 tyX3_ok nmX3 hown hK.1 hP hD hS 0 rfl rfl 5 (by decide) (hts _ wi_132) (fun _ h9 => h9) rfl (by decide +kernel) rfl rfl (Nat.le_of_ble_eq_true rfl) dX3_readTerm_2 (fun H locs hP hD hS => ?_)
  have hP := sR_top_P hP
  have hD := sR_top_D hD
  refine lv_aload_n hx hb dX3_readTerm_5 rfl (lv_at hl 0 rfl) ?_
  refine lv_lconst (v := (1 : Int64)) hx hb dX3_readTerm_6 (by decide) ?_
  refine va_put (D := G) (ci := 1) (v := .long (1 : Int64)) (ty := .long) (C := RX3) (T := TX3) (N := 10) hx hb hts fin_X3 tyX3 tyX3_ok nmX3 hown hK.1 hP hD hS 0 rfl rfl 6 (by decide) (hts _ wi_133) (fun _ h9 => h9) rfl (by decide +kernel) rfl rfl (Nat.le_of_ble_eq_true rfl) dX3_readTerm_7 (fun H locs hP hD hS => ?_)
  have hP := sR_bottom_P hP
  have hD := sR_bottom_D hD
  refine lv_aload_n hx hb dX3_readTerm_10 rfl (lv_at hl 0 rfl) ?_
  refine lv_iconst (v := 0) hx hb dX3_readTerm_11 (by decide) ?_
  refine va_put (D := G) (ci := 1) (v := .int (0 : Int32)) (ty := .int) (C := RX3) (T := TX3) (N := 10) hx hb hts fin_X3 tyX3 tyX3_ok nmX3 hown hK.1 hP hD hS 0 rfl rfl 7 (by decide) (hts _ wi_134) (fun _ h9 => h9) rfl (by decide +kernel) rfl rfl (Nat.le_of_ble_eq_true rfl) dX3_readTerm_12 (fun H locs hP hD hS => ?_)
  have hP := sR_power_P hP
  have hD := sR_power_D hD
  refine lv_aload_n hx hb dX3_readTerm_15 rfl (lv_at hl 0 rfl) ?_
  refine lv_iconst (v := 0) hx hb dX3_readTerm_16 (by decide) ?_
  refine va_put (D := G) (ci := 1) (v := .int (0 : Int32)) (ty := .int) (C := RX3) (T := TX3) (N := 10) hx hb hts fin_X3 tyX3 tyX3_ok nmX3 hown hK.1 hP hD hS 0 rfl rfl 8 (by decide) (hts _ wi_135) (fun _ h9 => h9) rfl (by decide +kernel) rfl rfl (Nat.le_of_ble_eq_true rfl) dX3_readTerm_17 (fun H locs hP hD hS => ?_)
  have hP := sR_kind_P hP
  have hD := sR_kind_D hD
  refine lv_aload_n hx hb dX3_readTerm_20 rfl (lv_at hl 0 rfl) ?_
  refine lv_iconst (v := 0) hx hb dX3_readTerm_21 (by decide) ?_
  refine va_put (D := G) (ci := 1) (v := .int (0 : Int32)) (ty := .int) (C := RX3) (T := TX3) (N := 10) hx hb hts fin_X3 tyX3 tyX3_ok nmX3 hown hK.1 hP hD hS 0 rfl rfl 9 (by decide) (hts _ wi_136) (fun _ h9 => h9) rfl (by decide +kernel) rfl rfl (Nat.le_of_ble_eq_true rfl) dX3_readTerm_22 (fun H locs hP hD hS => ?_)
  have hP := sR_arg_P hP
  have hD := sR_arg_D hD
  refine lv_aload_n hx hb dX3_readTerm_25 rfl (lv_at hl 0 rfl) ?_
  obtain ⟨r_1, hr_1, hf⟩ := obd hf
  refine cWiV (As := []) (rest := []) (W1 := ((wRd qD qL qSm r_1.2))) ⟨hx, hb, hml, hown, hts⟩ (m_X3_next l G cA qD qL qSm zL (uR_arg (uR_kind (uR_power (uR_bottom (uR_top zD (1 : Int64)) (1 : Int64)) (0 : Int32)) (0 : Int32)) (0 : Int32)) r_1 hr_1) (cw_X3_next hts wi_339 ⟨Nat.le_of_ble_eq_true rfl, Nat.le_of_ble_eq_true rfl⟩) hK hP hD hS [0] [1] rfl rfl rfl (by decide) rfl (pk (roP hR hRA hS) [0, 1] rfl) (dj_ro hD hRA [0, 1] (rfl : [0].map _ = _) rfl) (va_recv hK.1 hP (ci := 1) (q0 := 0) rfl rfl) rfl hl.1 rfl (Nat.le_of_ble_eq_true rfl) dX3_readTerm_26 ⟨Nat.zero_le _, Nat.zero_le _⟩ (fun H locs hP hD hS => ?_)
  refine lv_pop hx hb dX3_readTerm_29 rfl ?_
  refine lv_aload_n hx hb dX3_readTerm_30 rfl (lv_at hl 0 rfl) ?_
  refine va_get (D := G) (ci := 1) (v := .int (gR_at r_1.2)) (C := RX3) (T := TX3) (N := 10) hx hb hts fin_X3 hown hK.1 hP 0 rfl rfl 2 (by decide) (hts _ wi_129) (fun _ h9 => h9) rfl dX3_readTerm_31 ?_
  obtain ⟨y_2, hq, hf⟩ := obd hf
  have hy_2 : (gR_at r_1.2) = y_2 := Option.some.inj hq
  rw [hy_2]
  refine lv_istore_n (lv' := [(2, .int y_2), (0, .ref (qD 0)), (1, .int a1)]) hx hb dX3_readTerm_34 rfl hl (by decide) rfl (fun ls hl => ?_)
  refine lv_aload_n hx hb dX3_readTerm_35 rfl (lv_at hl 1 rfl) ?_
  obtain ⟨r_3, hr_3, hf⟩ := obd hf
  refine cWiV (As := []) (rest := []) (W1 := ((wRd qD qL qSm r_3.2))) ⟨hx, hb, hml, hown, hts⟩ (m_X3_readCoefficient l G cA qD qL qSm zL r_1.2 r_3 hr_3) (cw_X3_readCoefficient hts wi_347 ⟨Nat.le_of_ble_eq_true rfl, Nat.le_of_ble_eq_true rfl⟩) hK hP hD hS [0] [1] rfl rfl rfl (by decide) rfl (pk (roP hR hRA hS) [0, 1] rfl) (dj_ro hD hRA [0, 1] (rfl : [0].map _ = _) rfl) (va_recv hK.1 hP (ci := 1) (q0 := 0) rfl rfl) rfl hl.1 rfl (Nat.le_of_ble_eq_true rfl) dX3_readTerm_36 ⟨Nat.zero_le _, Nat.zero_le _⟩ (fun H locs hP hD hS => ?_)
  refine lv_if_eq (tgt := 56) hx hb dX3_readTerm_39 (by decide) (fun c_4 => ?_) (fun c_4 => ?_)
  · rw [if_pos (c_4)] at hf
    refine lv_iconst (v := 0) hx hb dX3_readTerm_56 (by decide) ?_
    cases hf
    exact W.zret hx hb hr (by decide) (fun t ht hW => ⟨⟨_, (), rfl, rfl, toT ht hP⟩, hS.F ht⟩) hS.2.2 dX3_readTerm_57 hlocks
  · rw [if_neg (c_4)] at hf
    refine lv_aload_n hx hb dX3_readTerm_42 rfl (lv_at hl 1 rfl) ?_
    obtain ⟨r_5, hr_5, hf⟩ := obd hf
    refine cWiV (As := []) (rest := []) (W1 := ((wRd qD qL qSm r_5.2))) ⟨hx, hb, hml, hown, hts⟩ (m_X3_readPower l G cA qD qL qSm zL r_3.2 r_5 hr_5) (cw_X3_readPower hts wi_366 ⟨Nat.le_of_ble_eq_true rfl, Nat.le_of_ble_eq_true rfl⟩) hK hP hD hS [0] [1] rfl rfl rfl (by decide) rfl (pk (roP hR hRA hS) [0, 1] rfl) (dj_ro hD hRA [0, 1] (rfl : [0].map _ = _) rfl) (va_recv hK.1 hP (ci := 1) (q0 := 0) rfl rfl) rfl hl.1 rfl (Nat.le_of_ble_eq_true rfl) dX3_readTerm_43 ⟨Nat.zero_le _, Nat.zero_le _⟩ (fun H locs hP hD hS => ?_)
    refine lv_if_eq (tgt := 56) hx hb dX3_readTerm_46 (by decide) (fun c_6 => ?_) (fun c_6 => ?_)
    · rw [if_pos (c_6)] at hf
      refine lv_iconst (v := 0) hx hb dX3_readTerm_56 (by decide) ?_
      cases hf
      exact W.zret hx hb hr (by decide) (fun t ht hW => ⟨⟨_, (), rfl, rfl, toT ht hP⟩, hS.F ht⟩) hS.2.2 dX3_readTerm_57 hlocks
    · rw [if_neg (c_6)] at hf
      refine lv_aload_n hx hb dX3_readTerm_49 rfl (lv_at hl 1 rfl) ?_
      obtain ⟨r_7, hr_7, hf⟩ := obd hf
      refine cWiV (As := []) (rest := []) (W1 := ((wRd qD qL qSm r_7.2))) ⟨hx, hb, hml, hown, hts⟩ (m_X3_readFunction l G cA qD qL qSm zL r_5.2 r_7 hr_7) (cw_X3_readFunction hts wi_370 ⟨Nat.le_of_ble_eq_true rfl, Nat.le_of_ble_eq_true rfl⟩) hK hP hD hS [0] [1] rfl rfl rfl (by decide) rfl (pk (roP hR hRA hS) [0, 1] rfl) (dj_ro hD hRA [0, 1] (rfl : [0].map _ = _) rfl) (va_recv hK.1 hP (ci := 1) (q0 := 0) rfl rfl) rfl hl.1 rfl (Nat.le_of_ble_eq_true rfl) dX3_readTerm_50 ⟨Nat.zero_le _, Nat.zero_le _⟩ (fun H locs hP hD hS => ?_)
      refine lv_if_ne (tgt := 58) hx hb dX3_readTerm_53 (by decide) (fun c_8 => ?_) (fun c_8 => ?_)
      · rw [if_pos (c_8)] at hf
        refine lv_aload_n hx hb dX3_readTerm_58 rfl (lv_at hl 1 rfl) ?_
        refine lv_iload_n hx hb dX3_readTerm_59 rfl (lv_at hl 2 rfl) ?_
        refine lv_if_eq (tgt := 71) hx hb dX3_readTerm_60 (by decide) (fun c_9 => ?_) (fun c_9 => ?_)
        · rw [if_pos (c_9)] at hf
          refine lv_aload_n hx hb dX3_readTerm_71 rfl (lv_at hl 1 rfl) ?_
          refine va_get (D := G) (ci := 1) (v := .long (gR_top r_7.2)) (C := RX3) (T := TX3) (N := 10) hx hb hts fin_X3 hown hK.1 hP 0 rfl rfl 5 (by decide) (hts _ wi_132) (fun _ h9 => h9) rfl dX3_readTerm_72 ?_
          exact b_X3_readTerm_75 qD qL qSm zL C0  r_7.2 y_2 (gR_top r_7.2) H locs ls hP hD hS (lv_sub hl [1, 0] rfl) hf
        · rw [if_neg (c_9)] at hf
          refine lv_aload_n hx hb dX3_readTerm_63 rfl (lv_at hl 1 rfl) ?_
          refine va_get (D := G) (ci := 1) (v := .long (gR_top r_7.2)) (C := RX3) (T := TX3) (N := 10) hx hb hts fin_X3 hown hK.1 hP 0 rfl rfl 5 (by decide) (hts _ wi_132) (fun _ h9 => h9) rfl dX3_readTerm_64 ?_
          refine lv_lneg hx hb dX3_readTerm_67 ?_
          refine lv_goto (tgt := 75) hx hb dX3_readTerm_68 (by decide) ?_
          exact b_X3_readTerm_75 qD qL qSm zL C0  r_7.2 y_2 (-(gR_top r_7.2)) H locs ls hP hD hS (lv_sub hl [1, 0] rfl) hf
      · rw [if_neg (not_not_intro c_8)] at hf
        refine lv_iconst (v := 0) hx hb dX3_readTerm_56 (by decide) ?_
        cases hf
        exact W.zret hx hb hr (by decide) (fun t ht hW => ⟨⟨_, (), rfl, rfl, toT ht hP⟩, hS.F ht⟩) hS.2.2 dX3_readTerm_57 hlocks

set_option maxRecDepth 100000 in
theorem m_X3_readTerm (l : Launch) (G : va_G) (cA : Nat → ClassId) (qD : Nat → Nat) (qL : Nat → Nat) (qSm : Nat → Nat) (zL : LineS) (zD : RdS) (a1 : Int32) (res : Int32 × RdS) (hf : f_X3_readTerm zL zD a1 = some res) : MWi l yX3_readTerm (.code yX3_readTerm cX3_readTerm 3 (some .boolean) :: wd) rm_X3_readTerm G cA [.ref (qD 0), .int a1] ((wRd qD qL qSm zD)) ((wLine cA qL zL)) ((wRd qD qL qSm res.2)) res.1 := by
  refine Met.ofW (cc := cX3_readTerm) (maxL := 3) (ret := (some .boolean)) (by decide) rfl ?_
  intro p e s m args below meth c s₁ B hml hv
  obtain ⟨rfl, hK, hP, hD0, hR, hRA⟩ := hv
  have C0 : Amb p s m ([.ref (qD 0), .int a1] : List Value).toArray meth c cX3_readTerm RX3 3 (some .boolean) G cA (adr ((wRd qD qL qSm zD))) ((wLine cA qL zL)) := ⟨B.exec, B.bytes, B.returns, hml, findClass_of_methodNamed B.named, fun w h => atoms_spec (ws := (.code yX3_readTerm cX3_readTerm 3 (some .boolean) :: wd)) B.pre w (List.mem_cons_of_mem _ h), B.notSynchronized, hK, hR, hRA⟩
  have hl := lv_entry ([.ref (qD 0), .int a1]) (n := 3) (Nat.le_of_ble_eq_true rfl)
  rw [lg_entry_eq]
  generalize (lg_sl ([.ref (qD 0), .int a1]) ++ List.replicate (3 - (lg_sl ([.ref (qD 0), .int a1])).length) Slot.unset).toArray = ls at hl ⊢
  have hl : lv_has ls 3 [(0, .ref (qD 0)), (1, .int a1)] := hl
  exact b_X3_readTerm_0 (W9 := ((wRd qD qL qSm zD))) qD qL qSm zL C0 zD a1 s.heap [] ls hP (adr.self hD0) va_S.rf hl hf
theorem cw_X3_readTerm {R : Room} {s : State} {args : Array Value} {own : String} {index : Nat} (ht : ∀ w ∈ wd, w.before args s = true) (hlink : Cond.methodLink own index yX3_readTerm ∈ wd) (hR : rm_X3_readTerm.frames + 1 ≤ R.frames ∧ 8 + (3 + 11) + rm_X3_readTerm.locals ≤ R.locals) : CallW R s args own RX3 index yX3_readTerm cX3_readTerm 3 (some .boolean) (.code yX3_readTerm cX3_readTerm 3 (some .boolean) :: wd) rm_X3_readTerm 0 0 1 := cwV9 1 ht wi_346 wi_345 wi_3 wi_58 hlink (by decide +kernel) rfl rfl hR
def rm_X3_addTerm : Room := { frames := 4, cells := 0, slots := 0, locals := 118 }
def f_X3_addTerm (nS : Nat) (zD : RdS) (zS : SumS) : Option (Int32 × SumS) := (f_X4_put nS zS (gR_kind zD) (gR_arg zD) (gR_power zD) (gR_top zD) (gR_bottom zD)).bind fun r_1 => (f_X4_fits nS r_1).bind fun r_2 => if zb r_2 = true then some (r_2, r_1) else none
set_option maxHeartbeats 4000000 in
set_option maxRecDepth 100000 in
theorem b_X3_addTerm_0 {p : Program} {l : Launch} {e : Env} {s : State} {m : MethodId} {args : Array Value} {below : List Frame} {meth : Method} {c : Code} {G : va_G} {cA : Nat → ClassId} {W9 : va_W} (qD : Nat → Nat) (qS : Nat → Nat) (nS : Nat) (qLn : Nat → Nat) (zD : RdS) (C0 : Amb p s m args meth c cX3_addTerm RX3 1 (some .boolean) G cA (adr W9) ((wRd qD qLn qS zD))) {res : Int32 × SumS} : ∀ (zS : SumS) (H : Heap) (locs : List Loc) (ls : Array Slot), va_P G vwCl ((wSum cA qS nS zS)) H → va_D (adr W9) ((wSum cA qS nS zS)) → va_S (adr W9) s.heap H locs → lv_has ls 1 [(0, .ref (qD 0))] → f_X3_addTerm nS zD zS = some res → W p l e rm_X3_addTerm s m args below meth c H locs 0 0 (MQ below (qWi G W9 ((wSum cA qS nS res.2)) res.1) args s 0 0 (adr W9)) (F0 m 0 ls []) := by
  obtain ⟨hx, hb, hr, hml, hown, hts, hlocks, hK, hR, hRA⟩ := id C0
  intro zS H locs ls hP hD hS hl hf
  unfold f_X3_addTerm at hf
  refine lv_aload_n hx hb dX3_addTerm_0 rfl (lv_at hl 0 rfl) ?_
  refine va_get (D := G) (ci := 1) (v := .ref (qS 0)) (C := RX3) (T := TX3) (N := 10) hx hb hts fin_X3 hown hK.1 (roP hR hRA hS) 0 rfl rfl 1 (by decide) (hts _ wi_128) (fun _ h9 => h9) rfl dX3_addTerm_1 ?_
  refine lv_aload_n hx hb dX3_addTerm_4 rfl (lv_at hl 0 rfl) ?_
  refine va_get (D := G) (ci := 1) (v := .int (gR_kind zD)) (C := RX3) (T := TX3) (N := 10) hx hb hts fin_X3 hown hK.1 (roP hR hRA hS) 0 rfl rfl 8 (by decide) (hts _ wi_135) (fun _ h9 => h9) rfl dX3_addTerm_5 ?_
  refine lv_aload_n hx hb dX3_addTerm_8 rfl (lv_at hl 0 rfl) ?_
  refine va_get (D := G) (ci := 1) (v := .int (gR_arg zD)) (C := RX3) (T := TX3) (N := 10) hx hb hts fin_X3 hown hK.1 (roP hR hRA hS) 0 rfl rfl 9 (by decide) (hts _ wi_136) (fun _ h9 => h9) rfl dX3_addTerm_9 ?_
  refine lv_aload_n hx hb dX3_addTerm_12 rfl (lv_at hl 0 rfl) ?_
  refine va_get (D := G) (ci := 1) (v := .int (gR_power zD)) (C := RX3) (T := TX3) (N := 10) hx hb hts fin_X3 hown hK.1 (roP hR hRA hS) 0 rfl rfl 7 (by decide) (hts _ wi_134) (fun _ h9 => h9) rfl dX3_addTerm_13 ?_
  refine lv_aload_n hx hb dX3_addTerm_16 rfl (lv_at hl 0 rfl) ?_
  refine va_get (D := G) (ci := 1) (v := .long (gR_top zD)) (C := RX3) (T := TX3) (N := 10) hx hb hts fin_X3 hown hK.1 (roP hR hRA hS) 0 rfl rfl 5 (by decide) (hts _ wi_132) (fun _ h9 => h9) rfl dX3_addTerm_17 ?_
  refine lv_aload_n hx hb dX3_addTerm_20 rfl (lv_at hl 0 rfl) ?_
  refine va_get (D := G) (ci := 1) (v := .long (gR_bottom zD)) (C := RX3) (T := TX3) (N := 10) hx hb hts fin_X3 hown hK.1 (roP hR hRA hS) 0 rfl rfl 6 (by decide) (hts _ wi_133) (fun _ h9 => h9) rfl dX3_addTerm_21 ?_
  obtain ⟨r_1, hr_1, hf⟩ := obd hf
  refine cWvV (As := [.int (gR_kind zD), .int (gR_arg zD), .int (gR_power zD), .long (gR_top zD), .long (gR_bottom zD)]) (rest := []) (W1 := ((wSum cA qS nS r_1))) ⟨hx, hb, hml, hown, hts⟩ (m_X4_put l G cA qS nS zS (gR_kind zD) (gR_arg zD) (gR_power zD) (gR_top zD) (gR_bottom zD) r_1 hr_1) (cw_X4_put hts wi_390 ⟨Nat.le_of_ble_eq_true rfl, Nat.le_of_ble_eq_true rfl⟩) hK hP hD hS [0, 1, 2, 3] [4, 5, 6, 7] rfl rfl rfl (by decide) rfl va_Pnil dj_nil (va_recv hK.1 hP (ci := 2) (q0 := 0) rfl rfl) rfl hl.1 rfl (Nat.le_of_ble_eq_true rfl) dX3_addTerm_24 ⟨Nat.zero_le _, Nat.zero_le _⟩ (fun H locs hP hD hS => ?_)
  refine lv_aload_n hx hb dX3_addTerm_27 rfl (lv_at hl 0 rfl) ?_
  refine va_get (D := G) (ci := 1) (v := .ref (qS 0)) (C := RX3) (T := TX3) (N := 10) hx hb hts fin_X3 hown hK.1 (roP hR hRA hS) 0 rfl rfl 1 (by decide) (hts _ wi_128) (fun _ h9 => h9) rfl dX3_addTerm_28 ?_
  obtain ⟨r_2, hr_2, hf⟩ := obd hf
  refine cRiV (As := []) (rest := []) ⟨hx, hb, hml, hown, hts⟩ (m_X4_fits l G cA qS nS r_1 r_2 hr_2) (cw_X4_fits hts wi_423 ⟨Nat.le_of_ble_eq_true rfl, Nat.le_of_ble_eq_true rfl⟩) hK (pk hP [0, 1, 2, 3] rfl) (va_recv hK.1 hP (ci := 2) (q0 := 0) rfl rfl) rfl hl.1 rfl (Nat.le_of_ble_eq_true rfl) dX3_addTerm_31 ⟨Nat.zero_le _, Nat.zero_le _⟩ ?_
  obtain ⟨hz_3, hf⟩ := oif hf
  cases hf
  exact W.zret hx hb hr (zb_n hz_3) (fun t ht hW => ⟨⟨_, (), rfl, rfl, toT ht hP⟩, hS.F ht⟩) hS.2.2 dX3_addTerm_34 hlocks

set_option maxRecDepth 100000 in
theorem m_X3_addTerm (l : Launch) (G : va_G) (cA : Nat → ClassId) (qD : Nat → Nat) (qS : Nat → Nat) (nS : Nat) (qLn : Nat → Nat) (zD : RdS) (zS : SumS) (res : Int32 × SumS) (hf : f_X3_addTerm nS zD zS = some res) : MWi l yX3_addTerm (.code yX3_addTerm cX3_addTerm 1 (some .boolean) :: wd) rm_X3_addTerm G cA [.ref (qD 0)] ((wSum cA qS nS zS)) ((wRd qD qLn qS zD)) ((wSum cA qS nS res.2)) res.1 := by
  refine Met.ofW (cc := cX3_addTerm) (maxL := 1) (ret := (some .boolean)) (by decide) rfl ?_
  intro p e s m args below meth c s₁ B hml hv
  obtain ⟨rfl, hK, hP, hD0, hR, hRA⟩ := hv
  have C0 : Amb p s m ([.ref (qD 0)] : List Value).toArray meth c cX3_addTerm RX3 1 (some .boolean) G cA (adr ((wSum cA qS nS zS))) ((wRd qD qLn qS zD)) := ⟨B.exec, B.bytes, B.returns, hml, findClass_of_methodNamed B.named, fun w h => atoms_spec (ws := (.code yX3_addTerm cX3_addTerm 1 (some .boolean) :: wd)) B.pre w (List.mem_cons_of_mem _ h), B.notSynchronized, hK, hR, hRA⟩
  have hl := lv_entry ([.ref (qD 0)]) (n := 1) (Nat.le_of_ble_eq_true rfl)
  rw [lg_entry_eq]
  generalize (lg_sl ([.ref (qD 0)]) ++ List.replicate (1 - (lg_sl ([.ref (qD 0)])).length) Slot.unset).toArray = ls at hl ⊢
  have hl : lv_has ls 1 [(0, .ref (qD 0))] := hl
  exact b_X3_addTerm_0 (W9 := ((wSum cA qS nS zS))) qD qS nS qLn zD C0 zS s.heap [] ls hP (adr.self hD0) va_S.rf hl hf
theorem cw_X3_addTerm {R : Room} {s : State} {args : Array Value} {own : String} {index : Nat} (ht : ∀ w ∈ wd, w.before args s = true) (hlink : Cond.methodLink own index yX3_addTerm ∈ wd) (hR : rm_X3_addTerm.frames + 1 ≤ R.frames ∧ 8 + (1 + 11) + rm_X3_addTerm.locals ≤ R.locals) : CallW R s args own RX3 index yX3_addTerm cX3_addTerm 1 (some .boolean) (.code yX3_addTerm cX3_addTerm 1 (some .boolean) :: wd) rm_X3_addTerm 0 0 0 := cwV9 0 ht wi_389 wi_388 wi_12 wi_58 hlink (by decide +kernel) rfl rfl hR
def rm_X3_readLine : Room := { frames := 5, cells := 0, slots := 0, locals := 138 }
def f_X3_readLine_121 (nS : Nat) (zL : LineS) (zD : RdS) (zS : SumS) (x1 : Int32) : Option (Int32 × RdS × SumS) := if x1 = 0 then some ((0 : Int32), zD, zS) else some ((-4 : Int32), zD, zS)
set_option maxHeartbeats 4000000 in
set_option maxRecDepth 100000 in
theorem b_X3_readLine_121 {p : Program} {l : Launch} {e : Env} {s : State} {m : MethodId} {args : Array Value} {below : List Frame} {meth : Method} {c : Code} {G : va_G} {cA : Nat → ClassId} {W9 : va_W} (qD : Nat → Nat) (qS : Nat → Nat) (nS : Nat) (qL : Nat → Nat) (zL : LineS) (C0 : Amb p s m args meth c cX3_readLine RX3 4 (some .int) G cA (adr W9) ((wLine cA qL zL))) {res : Int32 × RdS × SumS} : ∀ (zD : RdS) (zS : SumS) (x1 : Int32) (H : Heap) (locs : List Loc) (ls : Array Slot), va_P G vwCl ((wRd qD qL qS zD) ++ (wSum cA qS nS zS)) H → va_D (adr W9) ((wRd qD qL qS zD) ++ (wSum cA qS nS zS)) → va_S (adr W9) s.heap H locs → lv_has ls 4 [(1, .int x1)] → f_X3_readLine_121 nS zL zD zS x1 = some res → W p l e rm_X3_readLine s m args below meth c H locs 0 0 (MQ below (qWi G W9 ((wRd qD qL qS res.2.1) ++ (wSum cA qS nS res.2.2)) res.1) args s 0 0 (adr W9)) (F0 m 121 ls []) := by
  obtain ⟨hx, hb, hr, hml, hown, hts, hlocks, hK, hR, hRA⟩ := id C0
  intro zD zS x1 H locs ls hP hD hS hl hf
  unfold f_X3_readLine_121 at hf
  refine lv_iload_n hx hb dX3_readLine_121 rfl (lv_at hl 0 rfl) ?_
  refine lv_if_eq (tgt := 130) hx hb dX3_readLine_122 (by decide) (fun c_1 => ?_) (fun c_1 => ?_)
  · rw [if_pos (c_1)] at hf
    refine lv_iconst (v := 0) hx hb dX3_readLine_130 (by decide) ?_
    cases hf
    exact W.iret hx hb hr (fun t ht hW => ⟨⟨_, (), rfl, rfl, toT ht hP⟩, hS.F ht⟩) hS.2.2 dX3_readLine_131 hlocks
  · rw [if_neg (c_1)] at hf
    refine lv_bipush (v := (-4 : Int32)) hx hb dX3_readLine_125 (by decide) ?_
    refine lv_goto (tgt := 131) hx hb dX3_readLine_127 (by decide) ?_
    cases hf
    exact W.iret hx hb hr (fun t ht hW => ⟨⟨_, (), rfl, rfl, toT ht hP⟩, hS.F ht⟩) hS.2.2 dX3_readLine_131 hlocks
def f_X3_readLine_115 (nS : Nat) (zL : LineS) (kb_33 : RdS → SumS → Int32 → Int32 → Int32 → Option (Int32 × RdS × SumS)) (zD : RdS) (zS : SumS) (x1 : Int32) (x2 : Int32) (x3 : Int32) : Option (Int32 × RdS × SumS) := kb_33 zD zS x1 x2 (x3 + 1)
set_option maxHeartbeats 4000000 in
set_option maxRecDepth 100000 in
theorem b_X3_readLine_115 {p : Program} {l : Launch} {e : Env} {s : State} {m : MethodId} {args : Array Value} {below : List Frame} {meth : Method} {c : Code} {G : va_G} {cA : Nat → ClassId} {W9 : va_W} (qD : Nat → Nat) (qS : Nat → Nat) (nS : Nat) (qL : Nat → Nat) (zL : LineS) (C0 : Amb p s m args meth c cX3_readLine RX3 4 (some .int) G cA (adr W9) ((wLine cA qL zL))) {res : Int32 × RdS × SumS} (kb_33 : RdS → SumS → Int32 → Int32 → Int32 → Option (Int32 × RdS × SumS)) (hkb_33 : ∀ (zD : RdS) (zS : SumS) (x1 : Int32) (x2 : Int32) (x3 : Int32) (H : Heap) (locs : List Loc) (ls : Array Slot), va_P G vwCl ((wRd qD qL qS zD) ++ (wSum cA qS nS zS)) H → va_D (adr W9) ((wRd qD qL qS zD) ++ (wSum cA qS nS zS)) → va_S (adr W9) s.heap H locs → lv_has ls 4 [(0, .ref (qD 0)), (1, .int x1), (2, .int x2), (3, .int x3)] → kb_33 zD zS x1 x2 x3 = some res → W p l e rm_X3_readLine s m args below meth c H locs 0 0 (MQ below (qWi G W9 ((wRd qD qL qS res.2.1) ++ (wSum cA qS nS res.2.2)) res.1) args s 0 0 (adr W9)) (F0 m 33 ls [])) : ∀ (zD : RdS) (zS : SumS) (x1 : Int32) (x2 : Int32) (x3 : Int32) (H : Heap) (locs : List Loc) (ls : Array Slot), va_P G vwCl ((wRd qD qL qS zD) ++ (wSum cA qS nS zS)) H → va_D (adr W9) ((wRd qD qL qS zD) ++ (wSum cA qS nS zS)) → va_S (adr W9) s.heap H locs → lv_has ls 4 [(0, .ref (qD 0)), (1, .int x1), (2, .int x2), (3, .int x3)] → f_X3_readLine_115 nS zL kb_33 zD zS x1 x2 x3 = some res → W p l e rm_X3_readLine s m args below meth c H locs 0 0 (MQ below (qWi G W9 ((wRd qD qL qS res.2.1) ++ (wSum cA qS nS res.2.2)) res.1) args s 0 0 (adr W9)) (F0 m 115 ls []) := by
  obtain ⟨hx, hb, hr, hml, hown, hts, hlocks, hK, hR, hRA⟩ := id C0
  intro zD zS x1 x2 x3 H locs ls hP hD hS hl hf
  unfold f_X3_readLine_115 at hf
  refine lv_iinc (v := (x3 + 1)) (lv' := [(3, .int (x3 + 1)), (0, .ref (qD 0)), (1, .int x1), (2, .int x2)]) hx hb dX3_readLine_115 hl (k := 3) rfl rfl (by decide) rfl (fun ls hl => ?_)
  refine lv_goto (tgt := 33) hx hb dX3_readLine_118 (by decide) ?_
  exact hkb_33 zD zS x1 x2 (x3 + 1) H locs ls hP hD hS (lv_sub hl [1, 2, 3, 0] rfl) hf
def f_X3_readLine_68 (nS : Nat) (zL : LineS) (kb_33 : RdS → SumS → Int32 → Int32 → Int32 → Option (Int32 × RdS × SumS)) (zD : RdS) (zS : SumS) (x3 : Int32) (v0 : Int32) : Option (Int32 × RdS × SumS) := (f_X3_next zL zD).bind fun r_1 => if ¬ r_1.1 = 0 then (f_X3_takes zL r_1.2 (45 : Int32)).bind fun r_3 => if ¬ r_3.1 = 0 then f_X3_readLine_115 nS zL kb_33 r_3.2 zS v0 r_3.1 x3 else (f_X3_takes zL r_3.2 (43 : Int32)).bind fun r_5 => if ¬ r_5.1 = 0 then f_X3_readLine_115 nS zL kb_33 r_5.2 zS v0 r_3.1 x3 else (f_X3_refuse r_5.2 (-2 : Int32) (gR_at r_5.2)).bind fun r_7 => some ((gR_fault r_7.2), r_7.2, zS) else f_X3_readLine_121 nS zL r_1.2 zS v0
set_option maxHeartbeats 4000000 in
set_option maxRecDepth 100000 in
theorem b_X3_readLine_68 {p : Program} {l : Launch} {e : Env} {s : State} {m : MethodId} {args : Array Value} {below : List Frame} {meth : Method} {c : Code} {G : va_G} {cA : Nat → ClassId} {W9 : va_W} (qD : Nat → Nat) (qS : Nat → Nat) (nS : Nat) (qL : Nat → Nat) (zL : LineS) (C0 : Amb p s m args meth c cX3_readLine RX3 4 (some .int) G cA (adr W9) ((wLine cA qL zL))) {res : Int32 × RdS × SumS} (kb_33 : RdS → SumS → Int32 → Int32 → Int32 → Option (Int32 × RdS × SumS)) (hkb_33 : ∀ (zD : RdS) (zS : SumS) (x1 : Int32) (x2 : Int32) (x3 : Int32) (H : Heap) (locs : List Loc) (ls : Array Slot), va_P G vwCl ((wRd qD qL qS zD) ++ (wSum cA qS nS zS)) H → va_D (adr W9) ((wRd qD qL qS zD) ++ (wSum cA qS nS zS)) → va_S (adr W9) s.heap H locs → lv_has ls 4 [(0, .ref (qD 0)), (1, .int x1), (2, .int x2), (3, .int x3)] → kb_33 zD zS x1 x2 x3 = some res → W p l e rm_X3_readLine s m args below meth c H locs 0 0 (MQ below (qWi G W9 ((wRd qD qL qS res.2.1) ++ (wSum cA qS nS res.2.2)) res.1) args s 0 0 (adr W9)) (F0 m 33 ls [])) : ∀ (zD : RdS) (zS : SumS) (x3 : Int32) (v0 : Int32) (H : Heap) (locs : List Loc) (ls : Array Slot), va_P G vwCl ((wRd qD qL qS zD) ++ (wSum cA qS nS zS)) H → va_D (adr W9) ((wRd qD qL qS zD) ++ (wSum cA qS nS zS)) → va_S (adr W9) s.heap H locs → lv_has ls 4 [(0, .ref (qD 0)), (3, .int x3)] → f_X3_readLine_68 nS zL kb_33 zD zS x3 v0 = some res → W p l e rm_X3_readLine s m args below meth c H locs 0 0 (MQ below (qWi G W9 ((wRd qD qL qS res.2.1) ++ (wSum cA qS nS res.2.2)) res.1) args s 0 0 (adr W9)) (F0 m 68 ls [.int v0]) := by
  obtain ⟨hx, hb, hr, hml, hown, hts, hlocks, hK, hR, hRA⟩ := id C0
  intro zD zS x3 v0 H locs ls hP hD hS hl hf
  unfold f_X3_readLine_68 at hf
  refine lv_istore_n (lv' := [(1, .int v0), (0, .ref (qD 0)), (3, .int x3)]) hx hb dX3_readLine_68 rfl hl (by decide) rfl (fun ls hl => ?_)
  refine lv_aload_n hx hb dX3_readLine_69 rfl (lv_at hl 1 rfl) ?_
  obtain ⟨r_1, hr_1, hf⟩ := obd hf
  refine cWiV (As := []) (rest := []) (W1 := ((wRd qD qL qS r_1.2) ++ (wSum cA qS nS zS))) ⟨hx, hb, hml, hown, hts⟩ (m_X3_next l G cA qD qL qS zL zD r_1 hr_1) (cw_X3_next hts wi_339 ⟨Nat.le_of_ble_eq_true rfl, Nat.le_of_ble_eq_true rfl⟩) hK hP hD hS [0] [5, 1, 2, 3, 4] rfl rfl rfl (by decide) rfl (pk (roP hR hRA hS) [0, 1] rfl) (dj_ro hD hRA [0, 1] (rfl : [0].map _ = _) rfl) (va_recv hK.1 hP (ci := 1) (q0 := 0) rfl rfl) rfl hl.1 rfl (Nat.le_of_ble_eq_true rfl) dX3_readLine_70 ⟨Nat.zero_le _, Nat.zero_le _⟩ (fun H locs hP hD hS => ?_)
  refine lv_if_ne (tgt := 79) hx hb dX3_readLine_73 (by decide) (fun c_2 => ?_) (fun c_2 => ?_)
  · rw [if_pos (c_2)] at hf
    refine lv_aload_n hx hb dX3_readLine_79 rfl (lv_at hl 1 rfl) ?_
    refine lv_bipush (v := (45 : Int32)) hx hb dX3_readLine_80 (by decide) ?_
    obtain ⟨r_3, hr_3, hf⟩ := obd hf
    refine cWiV (As := [.int (45 : Int32)]) (rest := []) (W1 := ((wRd qD qL qS r_3.2) ++ (wSum cA qS nS zS))) ⟨hx, hb, hml, hown, hts⟩ (m_X3_takes l G cA qD qL qS zL r_1.2 (45 : Int32) r_3 hr_3) (cw_X3_takes hts wi_335 ⟨Nat.le_of_ble_eq_true rfl, Nat.le_of_ble_eq_true rfl⟩) hK hP hD hS [0] [5, 1, 2, 3, 4] rfl rfl rfl (by decide) rfl (pk (roP hR hRA hS) [0, 1] rfl) (dj_ro hD hRA [0, 1] (rfl : [0].map _ = _) rfl) (va_recv hK.1 hP (ci := 1) (q0 := 0) rfl rfl) rfl hl.1 rfl (Nat.le_of_ble_eq_true rfl) dX3_readLine_82 ⟨Nat.zero_le _, Nat.zero_le _⟩ (fun H locs hP hD hS => ?_)
    refine lv_istore_n (lv' := [(2, .int r_3.1), (1, .int v0), (0, .ref (qD 0)), (3, .int x3)]) hx hb dX3_readLine_85 rfl hl (by decide) rfl (fun ls hl => ?_)
    refine lv_iload_n hx hb dX3_readLine_86 rfl (lv_at hl 0 rfl) ?_
    refine lv_if_ne (tgt := 115) hx hb dX3_readLine_87 (by decide) (fun c_4 => ?_) (fun c_4 => ?_)
    · rw [if_pos (c_4)] at hf
      exact b_X3_readLine_115 qD qS nS qL  zL C0 kb_33 hkb_33 r_3.2 zS v0 r_3.1 x3 H locs ls hP hD hS (lv_sub hl [2, 1, 0, 3] rfl) hf
    · rw [if_neg (not_not_intro c_4)] at hf
      refine lv_aload_n hx hb dX3_readLine_90 rfl (lv_at hl 2 rfl) ?_
      refine lv_bipush (v := (43 : Int32)) hx hb dX3_readLine_91 (by decide) ?_
      obtain ⟨r_5, hr_5, hf⟩ := obd hf
      refine cWiV (As := [.int (43 : Int32)]) (rest := []) (W1 := ((wRd qD qL qS r_5.2) ++ (wSum cA qS nS zS))) ⟨hx, hb, hml, hown, hts⟩ (m_X3_takes l G cA qD qL qS zL r_3.2 (43 : Int32) r_5 hr_5) (cw_X3_takes hts wi_335 ⟨Nat.le_of_ble_eq_true rfl, Nat.le_of_ble_eq_true rfl⟩) hK hP hD hS [0] [5, 1, 2, 3, 4] rfl rfl rfl (by decide) rfl (pk (roP hR hRA hS) [0, 1] rfl) (dj_ro hD hRA [0, 1] (rfl : [0].map _ = _) rfl) (va_recv hK.1 hP (ci := 1) (q0 := 0) rfl rfl) rfl hl.1 rfl (Nat.le_of_ble_eq_true rfl) dX3_readLine_93 ⟨Nat.zero_le _, Nat.zero_le _⟩ (fun H locs hP hD hS => ?_)
      refine lv_if_ne (tgt := 115) hx hb dX3_readLine_96 (by decide) (fun c_6 => ?_) (fun c_6 => ?_)
      · rw [if_pos (c_6)] at hf
        exact b_X3_readLine_115 qD qS nS qL  zL C0 kb_33 hkb_33 r_5.2 zS v0 r_3.1 x3 H locs ls hP hD hS (lv_sub hl [2, 1, 0, 3] rfl) hf
      · rw [if_neg (not_not_intro c_6)] at hf
        refine lv_aload_n hx hb dX3_readLine_99 rfl (lv_at hl 2 rfl) ?_
        refine lv_bipush (v := (-2 : Int32)) hx hb dX3_readLine_100 (by decide) ?_
        refine lv_aload_n hx hb dX3_readLine_102 rfl (lv_at hl 2 rfl) ?_
        refine va_get (D := G) (ci := 1) (v := .int (gR_at r_5.2)) (C := RX3) (T := TX3) (N := 10) hx hb hts fin_X3 hown hK.1 hP 0 rfl rfl 2 (by decide) (hts _ wi_129) (fun _ h9 => h9) rfl dX3_readLine_103 ?_
        obtain ⟨r_7, hr_7, hf⟩ := obd hf
        refine cWiV (As := [.int (-2 : Int32), .int (gR_at r_5.2)]) (rest := []) (W1 := ((wRd qD qL qS r_7.2) ++ (wSum cA qS nS zS))) ⟨hx, hb, hml, hown, hts⟩ (m_X3_refuse l G cA qD qL qS r_5.2 (-2 : Int32) (gR_at r_5.2) r_7 hr_7) (cw_X3_refuse hts wi_358 ⟨Nat.le_of_ble_eq_true rfl, Nat.le_of_ble_eq_true rfl⟩) hK hP hD hS [0] [5, 1, 2, 3, 4] rfl rfl rfl (by decide) rfl va_Pnil dj_nil (va_recv hK.1 hP (ci := 1) (q0 := 0) rfl rfl) rfl hl.1 rfl (Nat.le_of_ble_eq_true rfl) dX3_readLine_106 ⟨Nat.zero_le _, Nat.zero_le _⟩ (fun H locs hP hD hS => ?_)
        refine lv_pop hx hb dX3_readLine_109 rfl ?_
        refine lv_aload_n hx hb dX3_readLine_110 rfl (lv_at hl 2 rfl) ?_
        refine va_get (D := G) (ci := 1) (v := .int (gR_fault r_7.2)) (C := RX3) (T := TX3) (N := 10) hx hb hts fin_X3 hown hK.1 hP 0 rfl rfl 3 (by decide) (hts _ wi_130) (fun _ h9 => h9) rfl dX3_readLine_111 ?_
        cases hf
        exact W.iret hx hb hr (fun t ht hW => ⟨⟨_, (), rfl, rfl, toT ht hP⟩, hS.F ht⟩) hS.2.2 dX3_readLine_114 hlocks
  · rw [if_neg (not_not_intro c_2)] at hf
    refine lv_goto (tgt := 121) hx hb dX3_readLine_76 (by decide) ?_
    exact b_X3_readLine_121 qD qS nS qL  zL C0  r_1.2 zS v0 H locs ls hP hD hS (lv_sub hl [0] rfl) hf
def f_X3_readLine_63 (nS : Nat) (zL : LineS) (kb_33 : RdS → SumS → Int32 → Int32 → Int32 → Option (Int32 × RdS × SumS)) (zD : RdS) (zS : SumS) (x3 : Int32) : Option (Int32 × RdS × SumS) := f_X3_readLine_68 nS zL kb_33 zD zS x3 (1 : Int32)
set_option maxHeartbeats 4000000 in
set_option maxRecDepth 100000 in
theorem b_X3_readLine_63 {p : Program} {l : Launch} {e : Env} {s : State} {m : MethodId} {args : Array Value} {below : List Frame} {meth : Method} {c : Code} {G : va_G} {cA : Nat → ClassId} {W9 : va_W} (qD : Nat → Nat) (qS : Nat → Nat) (nS : Nat) (qL : Nat → Nat) (zL : LineS) (C0 : Amb p s m args meth c cX3_readLine RX3 4 (some .int) G cA (adr W9) ((wLine cA qL zL))) {res : Int32 × RdS × SumS} (kb_33 : RdS → SumS → Int32 → Int32 → Int32 → Option (Int32 × RdS × SumS)) (hkb_33 : ∀ (zD : RdS) (zS : SumS) (x1 : Int32) (x2 : Int32) (x3 : Int32) (H : Heap) (locs : List Loc) (ls : Array Slot), va_P G vwCl ((wRd qD qL qS zD) ++ (wSum cA qS nS zS)) H → va_D (adr W9) ((wRd qD qL qS zD) ++ (wSum cA qS nS zS)) → va_S (adr W9) s.heap H locs → lv_has ls 4 [(0, .ref (qD 0)), (1, .int x1), (2, .int x2), (3, .int x3)] → kb_33 zD zS x1 x2 x3 = some res → W p l e rm_X3_readLine s m args below meth c H locs 0 0 (MQ below (qWi G W9 ((wRd qD qL qS res.2.1) ++ (wSum cA qS nS res.2.2)) res.1) args s 0 0 (adr W9)) (F0 m 33 ls [])) : ∀ (zD : RdS) (zS : SumS) (x3 : Int32) (H : Heap) (locs : List Loc) (ls : Array Slot), va_P G vwCl ((wRd qD qL qS zD) ++ (wSum cA qS nS zS)) H → va_D (adr W9) ((wRd qD qL qS zD) ++ (wSum cA qS nS zS)) → va_S (adr W9) s.heap H locs → lv_has ls 4 [(0, .ref (qD 0)), (3, .int x3)] → f_X3_readLine_63 nS zL kb_33 zD zS x3 = some res → W p l e rm_X3_readLine s m args below meth c H locs 0 0 (MQ below (qWi G W9 ((wRd qD qL qS res.2.1) ++ (wSum cA qS nS res.2.2)) res.1) args s 0 0 (adr W9)) (F0 m 63 ls []) := by
  obtain ⟨hx, hb, hr, hml, hown, hts, hlocks, hK, hR, hRA⟩ := id C0
  intro zD zS x3 H locs ls hP hD hS hl hf
  unfold f_X3_readLine_63 at hf
  refine lv_iconst (v := 1) hx hb dX3_readLine_63 (by decide) ?_
  refine lv_goto (tgt := 68) hx hb dX3_readLine_64 (by decide) ?_
  exact b_X3_readLine_68 qD qS nS qL  zL C0 kb_33 hkb_33 zD zS x3 (1 : Int32) H locs ls hP hD hS (lv_sub hl [0, 1] rfl) hf
def f_X3_readLine_33 (nS : Nat) (zL : LineS) : Nat → RdS → SumS → Int32 → Int32 → Int32 → Option (Int32 × RdS × SumS)
  | 0, _, _, _, _, _ => none
  | fu + 1, zD, zS, x1, x2, x3 => if (100 : Int32) ≤ x3 then f_X3_readLine_121 nS zL zD zS x1 else (f_X3_readTerm zL zD x2).bind fun r_2 => if ¬ r_2.1 = 0 then if ¬ x1 = 0 then f_X3_readLine_63 nS zL (fun zD_ zS_ x1_ x2_ x3_ => f_X3_readLine_33 nS zL fu zD_ zS_ x1_ x2_ x3_) r_2.2 zS x3 else (f_X3_addTerm nS r_2.2 zS).bind fun r_5 => if ¬ r_5.1 = 0 then f_X3_readLine_68 nS zL (fun zD_ zS_ x1_ x2_ x3_ => f_X3_readLine_33 nS zL fu zD_ zS_ x1_ x2_ x3_) r_2.2 r_5.2 x3 (0 : Int32) else f_X3_readLine_63 nS zL (fun zD_ zS_ x1_ x2_ x3_ => f_X3_readLine_33 nS zL fu zD_ zS_ x1_ x2_ x3_) r_2.2 r_5.2 x3 else some ((gR_fault r_2.2), r_2.2, zS)
set_option maxHeartbeats 4000000 in
set_option maxRecDepth 100000 in
theorem b_X3_readLine_33 {p : Program} {l : Launch} {e : Env} {s : State} {m : MethodId} {args : Array Value} {below : List Frame} {meth : Method} {c : Code} {G : va_G} {cA : Nat → ClassId} {W9 : va_W} (qD : Nat → Nat) (qS : Nat → Nat) (nS : Nat) (qL : Nat → Nat) (zL : LineS) (C0 : Amb p s m args meth c cX3_readLine RX3 4 (some .int) G cA (adr W9) ((wLine cA qL zL))) {res : Int32 × RdS × SumS} : ∀ (fu : Nat) (zD : RdS) (zS : SumS) (x1 : Int32) (x2 : Int32) (x3 : Int32) (H : Heap) (locs : List Loc) (ls : Array Slot), va_P G vwCl ((wRd qD qL qS zD) ++ (wSum cA qS nS zS)) H → va_D (adr W9) ((wRd qD qL qS zD) ++ (wSum cA qS nS zS)) → va_S (adr W9) s.heap H locs → lv_has ls 4 [(0, .ref (qD 0)), (1, .int x1), (2, .int x2), (3, .int x3)] → f_X3_readLine_33 nS zL fu zD zS x1 x2 x3 = some res → W p l e rm_X3_readLine s m args below meth c H locs 0 0 (MQ below (qWi G W9 ((wRd qD qL qS res.2.1) ++ (wSum cA qS nS res.2.2)) res.1) args s 0 0 (adr W9)) (F0 m 33 ls []) := by
  obtain ⟨hx, hb, hr, hml, hown, hts, hlocks, hK, hR, hRA⟩ := id C0
  intro fu
  induction fu with
  | zero =>
    intro zD zS x1 x2 x3 H locs ls hP hD hS hl hf
    rw [f_X3_readLine_33] at hf
    cases hf
  | succ fu ih =>
    intro zD zS x1 x2 x3 H locs ls hP hD hS hl hf
    rw [f_X3_readLine_33] at hf
    refine lv_iload_n hx hb dX3_readLine_33 rfl (lv_at hl 3 rfl) ?_
    refine lv_bipush (v := (100 : Int32)) hx hb dX3_readLine_34 (by decide) ?_
    refine lv_icmp_ge (tgt := 121) hx hb dX3_readLine_36 (by decide) (fun c_1 => ?_) (fun c_1 => ?_)
    · rw [if_pos (c_1)] at hf
      exact b_X3_readLine_121 qD qS nS qL  zL C0  zD zS x1 H locs ls hP hD hS (lv_sub hl [1] rfl) hf
    · rw [if_neg (c_1)] at hf
      refine lv_aload_n hx hb dX3_readLine_39 rfl (lv_at hl 0 rfl) ?_
      refine lv_iload_n hx hb dX3_readLine_40 rfl (lv_at hl 2 rfl) ?_
      obtain ⟨r_2, hr_2, hf⟩ := obd hf
      refine cWiV (As := [.int x2]) (rest := []) (W1 := ((wRd qD qL qS r_2.2) ++ (wSum cA qS nS zS))) ⟨hx, hb, hml, hown, hts⟩ (m_X3_readTerm l G cA qD qL qS zL zD x2 r_2 hr_2) (cw_X3_readTerm hts wi_343 ⟨Nat.le_of_ble_eq_true rfl, Nat.le_of_ble_eq_true rfl⟩) hK hP hD hS [0] [5, 1, 2, 3, 4] rfl rfl rfl (by decide) rfl (pk (roP hR hRA hS) [0, 1] rfl) (dj_ro hD hRA [0, 1] (rfl : [0].map _ = _) rfl) (va_recv hK.1 hP (ci := 1) (q0 := 0) rfl rfl) rfl hl.1 rfl (Nat.le_of_ble_eq_true rfl) dX3_readLine_41 ⟨Nat.zero_le _, Nat.zero_le _⟩ (fun H locs hP hD hS => ?_)
      refine lv_if_ne (tgt := 52) hx hb dX3_readLine_44 (by decide) (fun c_3 => ?_) (fun c_3 => ?_)
      · rw [if_pos (c_3)] at hf
        refine lv_iload_n hx hb dX3_readLine_52 rfl (lv_at hl 1 rfl) ?_
        refine lv_if_ne (tgt := 63) hx hb dX3_readLine_53 (by decide) (fun c_4 => ?_) (fun c_4 => ?_)
        · rw [if_pos (c_4)] at hf
          exact b_X3_readLine_63 qD qS nS qL  zL C0 (fun zD_ zS_ x1_ x2_ x3_ => f_X3_readLine_33 nS zL fu zD_ zS_ x1_ x2_ x3_) ih r_2.2 zS x3 H locs ls hP hD hS (lv_sub hl [0, 3] rfl) hf
        · rw [if_neg (not_not_intro c_4)] at hf
          refine lv_aload_n hx hb dX3_readLine_56 rfl (lv_at hl 0 rfl) ?_
          obtain ⟨r_5, hr_5, hf⟩ := obd hf
          refine cWiV (As := []) (rest := []) (W1 := ((wRd qD qL qS r_2.2) ++ (wSum cA qS nS r_5.2))) ⟨hx, hb, hml, hown, hts⟩ (m_X3_addTerm l G cA qD qS nS qL r_2.2 zS r_5 hr_5) (cw_X3_addTerm hts wi_386 ⟨Nat.le_of_ble_eq_true rfl, Nat.le_of_ble_eq_true rfl⟩) hK hP hD hS [1, 2, 3, 4] [0, 5, 6, 7, 8] rfl rfl rfl (by decide) rfl (pk hP [0] rfl) (dj_own hD [0] (rfl : [1, 2, 3, 4].map _ = _) rfl (by decide)) (va_recv hK.1 hP (ci := 1) (q0 := 0) rfl rfl) rfl hl.1 rfl (Nat.le_of_ble_eq_true rfl) dX3_readLine_57 ⟨Nat.zero_le _, Nat.zero_le _⟩ (fun H locs hP hD hS => ?_)
          refine lv_if_ne (tgt := 67) hx hb dX3_readLine_60 (by decide) (fun c_6 => ?_) (fun c_6 => ?_)
          · rw [if_pos (c_6)] at hf
            refine lv_iconst (v := 0) hx hb dX3_readLine_67 (by decide) ?_
            exact b_X3_readLine_68 qD qS nS qL  zL C0 (fun zD_ zS_ x1_ x2_ x3_ => f_X3_readLine_33 nS zL fu zD_ zS_ x1_ x2_ x3_) ih r_2.2 r_5.2 x3 (0 : Int32) H locs ls hP hD hS (lv_sub hl [0, 3] rfl) hf
          · rw [if_neg (not_not_intro c_6)] at hf
            exact b_X3_readLine_63 qD qS nS qL  zL C0 (fun zD_ zS_ x1_ x2_ x3_ => f_X3_readLine_33 nS zL fu zD_ zS_ x1_ x2_ x3_) ih r_2.2 r_5.2 x3 H locs ls hP hD hS (lv_sub hl [0, 3] rfl) hf
      · rw [if_neg (not_not_intro c_3)] at hf
        refine lv_aload_n hx hb dX3_readLine_47 rfl (lv_at hl 0 rfl) ?_
        refine va_get (D := G) (ci := 1) (v := .int (gR_fault r_2.2)) (C := RX3) (T := TX3) (N := 10) hx hb hts fin_X3 hown hK.1 hP 0 rfl rfl 3 (by decide) (hts _ wi_130) (fun _ h9 => h9) rfl dX3_readLine_48 ?_
        cases hf
        exact W.iret hx hb hr (fun t ht hW => ⟨⟨_, (), rfl, rfl, toT ht hP⟩, hS.F ht⟩) hS.2.2 dX3_readLine_51 hlocks
def f_X3_readLine (nS : Nat) (zL : LineS) (zD : RdS) (zS : SumS) : Option (Int32 × RdS × SumS) := (f_X4_clear nS zS).bind fun r_1 => (f_X3_takes zL (uR_place (uR_fault (uR_at zD (0 : Int32)) (0 : Int32)) (-1 : Int32)) (45 : Int32)).bind fun r_2 => f_X3_readLine_33 nS zL fuel r_2.2 r_1 (0 : Int32) r_2.1 (0 : Int32)
set_option maxHeartbeats 4000000 in
set_option maxRecDepth 100000 in
theorem b_X3_readLine_0 {p : Program} {l : Launch} {e : Env} {s : State} {m : MethodId} {args : Array Value} {below : List Frame} {meth : Method} {c : Code} {G : va_G} {cA : Nat → ClassId} {W9 : va_W} (qD : Nat → Nat) (qS : Nat → Nat) (nS : Nat) (qL : Nat → Nat) (zL : LineS) (C0 : Amb p s m args meth c cX3_readLine RX3 4 (some .int) G cA (adr W9) ((wLine cA qL zL))) {res : Int32 × RdS × SumS} : ∀ (zD : RdS) (zS : SumS) (H : Heap) (locs : List Loc) (ls : Array Slot), va_P G vwCl ((wRd qD qL qS zD) ++ (wSum cA qS nS zS)) H → va_D (adr W9) ((wRd qD qL qS zD) ++ (wSum cA qS nS zS)) → va_S (adr W9) s.heap H locs → lv_has ls 4 [(0, .ref (qD 0))] → f_X3_readLine nS zL zD zS = some res → W p l e rm_X3_readLine s m args below meth c H locs 0 0 (MQ below (qWi G W9 ((wRd qD qL qS res.2.1) ++ (wSum cA qS nS res.2.2)) res.1) args s 0 0 (adr W9)) (F0 m 0 ls []) := by
  obtain ⟨hx, hb, hr, hml, hown, hts, hlocks, hK, hR, hRA⟩ := id C0
  intro zD zS H locs ls hP hD hS hl hf
  unfold f_X3_readLine at hf
  refine lv_aload_n hx hb dX3_readLine_0 rfl (lv_at hl 0 rfl) ?_
  refine lv_iconst (v := 0) hx hb dX3_readLine_1 (by decide) ?_
  refine va_put (D := G) (ci := 1) (v := .int (0 : Int32)) (ty := .int) (C := RX3) (T := TX3) (N := 10) hx hb hts fin_X3 tyX3 tyX3_ok nmX3 hown hK.1 hP hD hS 0 rfl rfl 2 (by decide) (hts _ wi_129) (fun _ h9 => h9) rfl (by decide +kernel) rfl rfl (Nat.le_of_ble_eq_true rfl) dX3_readLine_2 (fun H locs hP hD hS => ?_)
  have hP : va_P G vwCl ((wRd qD qL qS (uR_at zD (0 : Int32))) ++ (wSum cA qS nS zS)) H := hP
  have hD : va_D (adr W9) ((wRd qD qL qS (uR_at zD (0 : Int32))) ++ (wSum cA qS nS zS)) := hD
  refine lv_aload_n hx hb dX3_readLine_5 rfl (lv_at hl 0 rfl) ?_
  refine lv_iconst (v := 0) hx hb dX3_readLine_6 (by decide) ?_
  refine va_put (D := G) (ci := 1) (v := .int (0 : Int32)) (ty := .int) (C := RX3) (T := TX3) (N := 10) hx hb hts fin_X3 tyX3 tyX3_ok nmX3 hown hK.1 hP hD hS 0 rfl rfl 3 (by decide) (hts _ wi_130) (fun _ h9 => h9) rfl (by decide +kernel) rfl rfl (Nat.le_of_ble_eq_true rfl) dX3_readLine_7 (fun H locs hP hD hS => ?_)
  have hP : va_P G vwCl ((wRd qD qL qS (uR_fault (uR_at zD (0 : Int32)) (0 : Int32))) ++ (wSum cA qS nS zS)) H := hP
  have hD : va_D (adr W9) ((wRd qD qL qS (uR_fault (uR_at zD (0 : Int32)) (0 : Int32))) ++ (wSum cA qS nS zS)) := hD
  refine lv_aload_n hx hb dX3_readLine_10 rfl (lv_at hl 0 rfl) ?_
  refine lv_iconst (v := (-1)) hx hb dX3_readLine_11 (by decide) ?_
  refine va_put (D := G) (ci := 1) (v := .int (-1 : Int32)) (ty := .int) (C := RX3) (T := TX3) (N := 10) hx hb hts fin_X3 tyX3 tyX3_ok nmX3 hown hK.1 hP hD hS 0 rfl rfl 4 (by decide) (hts _ wi_131) (fun _ h9 => h9) rfl (by decide +kernel) rfl rfl (Nat.le_of_ble_eq_true rfl) dX3_readLine_12 (fun H locs hP hD hS => ?_)
  have hP : va_P G vwCl ((wRd qD qL qS (uR_place (uR_fault (uR_at zD (0 : Int32)) (0 : Int32)) (-1 : Int32))) ++ (wSum cA qS nS zS)) H := hP
  have hD : va_D (adr W9) ((wRd qD qL qS (uR_place (uR_fault (uR_at zD (0 : Int32)) (0 : Int32)) (-1 : Int32))) ++ (wSum cA qS nS zS)) := hD
  refine lv_aload_n hx hb dX3_readLine_15 rfl (lv_at hl 0 rfl) ?_
  refine va_get (D := G) (ci := 1) (v := .ref (qS 0)) (C := RX3) (T := TX3) (N := 10) hx hb hts fin_X3 hown hK.1 hP 0 rfl rfl 1 (by decide) (hts _ wi_128) (fun _ h9 => h9) rfl dX3_readLine_16 ?_
  obtain ⟨r_1, hr_1, hf⟩ := obd hf
  refine cWvV (As := []) (rest := []) (W1 := ((wRd qD qL qS (uR_place (uR_fault (uR_at zD (0 : Int32)) (0 : Int32)) (-1 : Int32))) ++ (wSum cA qS nS r_1))) ⟨hx, hb, hml, hown, hts⟩ (m_X4_clear l G cA qS nS zS r_1 hr_1) (cw_X4_clear hts wi_331 ⟨Nat.le_of_ble_eq_true rfl, Nat.le_of_ble_eq_true rfl⟩) hK hP hD hS [1, 2, 3, 4] [0, 5, 6, 7, 8] rfl rfl rfl (by decide) rfl va_Pnil dj_nil (va_recv hK.1 hP (ci := 2) (q0 := 1) rfl rfl) rfl hl.1 rfl (Nat.le_of_ble_eq_true rfl) dX3_readLine_19 ⟨Nat.zero_le _, Nat.zero_le _⟩ (fun H locs hP hD hS => ?_)
  refine lv_iconst (v := 0) hx hb dX3_readLine_22 (by decide) ?_
  refine lv_istore_n (lv' := [(1, .int (0 : Int32)), (0, .ref (qD 0))]) hx hb dX3_readLine_23 rfl hl (by decide) rfl (fun ls hl => ?_)
  refine lv_aload_n hx hb dX3_readLine_24 rfl (lv_at hl 1 rfl) ?_
  refine lv_bipush (v := (45 : Int32)) hx hb dX3_readLine_25 (by decide) ?_
  obtain ⟨r_2, hr_2, hf⟩ := obd hf
  refine cWiV (As := [.int (45 : Int32)]) (rest := []) (W1 := ((wRd qD qL qS r_2.2) ++ (wSum cA qS nS r_1))) ⟨hx, hb, hml, hown, hts⟩ (m_X3_takes l G cA qD qL qS zL (uR_place (uR_fault (uR_at zD (0 : Int32)) (0 : Int32)) (-1 : Int32)) (45 : Int32) r_2 hr_2) (cw_X3_takes hts wi_335 ⟨Nat.le_of_ble_eq_true rfl, Nat.le_of_ble_eq_true rfl⟩) hK hP hD hS [0] [5, 1, 2, 3, 4] rfl rfl rfl (by decide) rfl (pk (roP hR hRA hS) [0, 1] rfl) (dj_ro hD hRA [0, 1] (rfl : [0].map _ = _) rfl) (va_recv hK.1 hP (ci := 1) (q0 := 0) rfl rfl) rfl hl.1 rfl (Nat.le_of_ble_eq_true rfl) dX3_readLine_27 ⟨Nat.zero_le _, Nat.zero_le _⟩ (fun H locs hP hD hS => ?_)
  refine lv_istore_n (lv' := [(2, .int r_2.1), (1, .int (0 : Int32)), (0, .ref (qD 0))]) hx hb dX3_readLine_30 rfl hl (by decide) rfl (fun ls hl => ?_)
  refine lv_iconst (v := 0) hx hb dX3_readLine_31 (by decide) ?_
  refine lv_istore_n (lv' := [(3, .int (0 : Int32)), (2, .int r_2.1), (1, .int (0 : Int32)), (0, .ref (qD 0))]) hx hb dX3_readLine_32 rfl hl (by decide) rfl (fun ls hl => ?_)
  exact b_X3_readLine_33 qD qS nS qL  zL C0  fuel r_2.2 r_1 (0 : Int32) r_2.1 (0 : Int32) H locs ls hP hD hS (lv_sub hl [3, 2, 1, 0] rfl) hf

set_option maxRecDepth 100000 in
theorem m_X3_readLine (l : Launch) (G : va_G) (cA : Nat → ClassId) (qD : Nat → Nat) (qS : Nat → Nat) (nS : Nat) (qL : Nat → Nat) (zL : LineS) (zD : RdS) (zS : SumS) (res : Int32 × RdS × SumS) (hf : f_X3_readLine nS zL zD zS = some res) : MWi l yX3_readLine (.code yX3_readLine cX3_readLine 4 (some .int) :: wd) rm_X3_readLine G cA [.ref (qD 0)] ((wRd qD qL qS zD) ++ (wSum cA qS nS zS)) ((wLine cA qL zL)) ((wRd qD qL qS res.2.1) ++ (wSum cA qS nS res.2.2)) res.1 := by
  refine Met.ofW (cc := cX3_readLine) (maxL := 4) (ret := (some .int)) (by decide) rfl ?_
  intro p e s m args below meth c s₁ B hml hv
  obtain ⟨rfl, hK, hP, hD0, hR, hRA⟩ := hv
  have C0 : Amb p s m ([.ref (qD 0)] : List Value).toArray meth c cX3_readLine RX3 4 (some .int) G cA (adr ((wRd qD qL qS zD) ++ (wSum cA qS nS zS))) ((wLine cA qL zL)) := ⟨B.exec, B.bytes, B.returns, hml, findClass_of_methodNamed B.named, fun w h => atoms_spec (ws := (.code yX3_readLine cX3_readLine 4 (some .int) :: wd)) B.pre w (List.mem_cons_of_mem _ h), B.notSynchronized, hK, hR, hRA⟩
  have hl := lv_entry ([.ref (qD 0)]) (n := 4) (Nat.le_of_ble_eq_true rfl)
  rw [lg_entry_eq]
  generalize (lg_sl ([.ref (qD 0)]) ++ List.replicate (4 - (lg_sl ([.ref (qD 0)])).length) Slot.unset).toArray = ls at hl ⊢
  have hl : lv_has ls 4 [(0, .ref (qD 0))] := hl
  exact b_X3_readLine_0 (W9 := ((wRd qD qL qS zD) ++ (wSum cA qS nS zS))) qD qS nS qL  zL C0 zD zS s.heap [] ls hP (adr.self hD0) va_S.rf hl hf
theorem cw_X3_readLine {R : Room} {s : State} {args : Array Value} {own : String} {index : Nat} (ht : ∀ w ∈ wd, w.before args s = true) (hlink : Cond.methodLink own index yX3_readLine ∈ wd) (hR : rm_X3_readLine.frames + 1 ≤ R.frames ∧ 8 + (4 + 11) + rm_X3_readLine.locals ≤ R.locals) : CallW R s args own RX3 index yX3_readLine cX3_readLine 4 (some .int) (.code yX3_readLine cX3_readLine 4 (some .int) :: wd) rm_X3_readLine 0 0 0 := cwV9 0 ht wi_330 wi_328 wi_329 wi_58 hlink (by decide +kernel) rfl rfl hR
def rm_X5_length : Room := { frames := 0, cells := 0, slots := 0, locals := 0 }
def f_X5_length (zW : WrS) : Option (Int32) := some (gW_len zW)
set_option maxHeartbeats 4000000 in
set_option maxRecDepth 100000 in
theorem b_X5_length_0 {p : Program} {l : Launch} {e : Env} {s : State} {m : MethodId} {args : Array Value} {below : List Frame} {meth : Method} {c : Code} {G : va_G} {cA : Nat → ClassId} (qW : Nat → Nat) (zW : WrS) (C0 : Amb p s m args meth c cX5_length RX5 1 (some .int) G cA (fun _ : Nat => False) ((wWr cA qW zW))) {res : Int32} : ∀ (ls : Array Slot), lv_has ls 1 [(0, .ref (qW 0))] → f_X5_length zW = some res → W p l e rm_X5_length s m args below meth c s.heap [] 0 0 (MQ below (vp_Si (fun x => x = res)) args s 0 0 (fun _ : Nat => False)) (F0 m 0 ls []) := by
  obtain ⟨hx, hb, hr, hml, hown, hts, hlocks, hK, hR, hRA⟩ := id C0
  intro ls hl hf
  unfold f_X5_length at hf
  refine lv_aload_n hx hb dX5_length_0 rfl (lv_at hl 0 rfl) ?_
  refine va_get (D := G) (ci := 3) (v := .int (gW_len zW)) (C := RX5) (T := TX5) (N := 2) hx hb hts fin_X5 hown hK.1 hR 0 rfl rfl 1 (by decide) (hts _ wi_165) (fun _ h9 => h9) rfl dX5_length_1 ?_
  cases hf
  exact W.iret hx hb hr (fun t ht hW => ⟨_, rfl, rfl, ht⟩) (fun q hq => by cases hq) dX5_length_4 hlocks

set_option maxRecDepth 100000 in
theorem m_X5_length (l : Launch) (G : va_G) (cA : Nat → ClassId) (qW : Nat → Nat) (zW : WrS)  (res : Int32) (hf : f_X5_length zW = some res) : MRi l yX5_length (.code yX5_length cX5_length 1 (some .int) :: wd) rm_X5_length G cA [.ref (qW 0)] ((wWr cA qW zW)) res := by
  refine Met.ofW (cc := cX5_length) (maxL := 1) (ret := (some .int)) (by decide) rfl ?_
  intro p e s m args below meth c s₁ B hml hv
  obtain ⟨rfl, hK, hR⟩ := hv
  have C0 : Amb p s m ([.ref (qW 0)] : List Value).toArray meth c cX5_length RX5 1 (some .int) G cA (fun _ : Nat => False) ((wWr cA qW zW)) := ⟨B.exec, B.bytes, B.returns, hml, findClass_of_methodNamed B.named, fun w h => atoms_spec (ws := (.code yX5_length cX5_length 1 (some .int) :: wd)) B.pre w (List.mem_cons_of_mem _ h), B.notSynchronized, hK, hR, fun _ _ _ h => h⟩
  have hl := lv_entry ([.ref (qW 0)]) (n := 1) (Nat.le_of_ble_eq_true rfl)
  rw [lg_entry_eq]
  generalize (lg_sl ([.ref (qW 0)]) ++ List.replicate (1 - (lg_sl ([.ref (qW 0)])).length) Slot.unset).toArray = ls at hl ⊢
  have hl : lv_has ls 1 [(0, .ref (qW 0))] := hl
  exact b_X5_length_0 qW  zW C0  ls hl hf
theorem cw_X5_length {R : Room} {s : State} {args : Array Value} {own : String} {index : Nat} (ht : ∀ w ∈ wd, w.before args s = true) (hlink : Cond.methodLink own index yX5_length ∈ wd) (hR : rm_X5_length.frames + 1 ≤ R.frames ∧ 8 + (1 + 11) + rm_X5_length.locals ≤ R.locals) : CallW R s args own RX5 index yX5_length cX5_length 1 (some .int) (.code yX5_length cX5_length 1 (some .int) :: wd) rm_X5_length 0 0 0 := cwV9 0 ht wi_529 wi_527 wi_528 wi_59 hlink (by decide +kernel) rfl rfl hR
def rm_X5_charAt : Room := { frames := 0, cells := 0, slots := 0, locals := 0 }
def f_X5_charAt (zW : WrS) (a1 : Int32) : Option (Int32) := if a1 < 0 then if cb (32 : Int32) = true then some (32 : Int32) else none else if (gW_len zW) ≤ a1 then if cb (32 : Int32) = true then some (32 : Int32) else none else if inb a1 1200 = true then if cb (gW_ch zW a1.toNatClampNeg) = true then some (gW_ch zW a1.toNatClampNeg) else none else none
set_option maxHeartbeats 4000000 in
set_option maxRecDepth 100000 in
theorem b_X5_charAt_0 {p : Program} {l : Launch} {e : Env} {s : State} {m : MethodId} {args : Array Value} {below : List Frame} {meth : Method} {c : Code} {G : va_G} {cA : Nat → ClassId} (qW : Nat → Nat) (zW : WrS) (C0 : Amb p s m args meth c cX5_charAt RX5 2 (some .char) G cA (fun _ : Nat => False) ((wWr cA qW zW))) {res : Int32} : ∀ (a1 : Int32) (ls : Array Slot), lv_has ls 2 [(0, .ref (qW 0)), (1, .int a1)] → f_X5_charAt zW a1 = some res → W p l e rm_X5_charAt s m args below meth c s.heap [] 0 0 (MQ below (vp_Si (fun x => x = res)) args s 0 0 (fun _ : Nat => False)) (F0 m 0 ls []) := by
  obtain ⟨hx, hb, hr, hml, hown, hts, hlocks, hK, hR, hRA⟩ := id C0
  intro a1 ls hl hf
  unfold f_X5_charAt at hf
  refine lv_iload_n hx hb dX5_charAt_0 rfl (lv_at hl 1 rfl) ?_
  refine lv_if_lt (tgt := 21) hx hb dX5_charAt_1 (by decide) (fun c_1 => ?_) (fun c_1 => ?_)
  · rw [if_pos (c_1)] at hf
    refine lv_bipush (v := (32 : Int32)) hx hb dX5_charAt_21 (by decide) ?_
    obtain ⟨hz_2, hf⟩ := oif hf
    cases hf
    exact W.zret hx hb hr (cb_n hz_2) (fun t ht hW => ⟨_, rfl, rfl, ht⟩) (fun q hq => by cases hq) dX5_charAt_23 hlocks
  · rw [if_neg (c_1)] at hf
    refine lv_iload_n hx hb dX5_charAt_4 rfl (lv_at hl 1 rfl) ?_
    refine lv_aload_n hx hb dX5_charAt_5 rfl (lv_at hl 0 rfl) ?_
    refine va_get (D := G) (ci := 3) (v := .int (gW_len zW)) (C := RX5) (T := TX5) (N := 2) hx hb hts fin_X5 hown hK.1 hR 0 rfl rfl 1 (by decide) (hts _ wi_165) (fun _ h9 => h9) rfl dX5_charAt_6 ?_
    refine lv_icmp_ge (tgt := 21) hx hb dX5_charAt_9 (by decide) (fun c_3 => ?_) (fun c_3 => ?_)
    · rw [if_pos (c_3)] at hf
      refine lv_bipush (v := (32 : Int32)) hx hb dX5_charAt_21 (by decide) ?_
      obtain ⟨hz_4, hf⟩ := oif hf
      cases hf
      exact W.zret hx hb hr (cb_n hz_4) (fun t ht hW => ⟨_, rfl, rfl, ht⟩) (fun q hq => by cases hq) dX5_charAt_23 hlocks
    · rw [if_neg (c_3)] at hf
      refine lv_aload_n hx hb dX5_charAt_12 rfl (lv_at hl 0 rfl) ?_
      refine va_get (D := G) (ci := 3) (v := .ref (qW 1)) (C := RX5) (T := TX5) (N := 2) hx hb hts fin_X5 hown hK.1 hR 0 rfl rfl 0 (by decide) (hts _ wi_164) (fun _ h9 => h9) rfl dX5_charAt_13 ?_
      refine lv_iload_n hx hb dX5_charAt_16 rfl (lv_at hl 1 rfl) ?_
      obtain ⟨hi_5, hf⟩ := oif hf
      refine va_cald hx hb hK.1 hR 1 2 rfl rfl (inb_in hi_5) dX5_charAt_17 ?_
      refine lv_goto (tgt := 23) hx hb dX5_charAt_18 (by decide) ?_
      obtain ⟨hz_6, hf⟩ := oif hf
      cases hf
      exact W.zret hx hb hr (cb_n hz_6) (fun t ht hW => ⟨_, rfl, rfl, ht⟩) (fun q hq => by cases hq) dX5_charAt_23 hlocks

set_option maxRecDepth 100000 in
theorem m_X5_charAt (l : Launch) (G : va_G) (cA : Nat → ClassId) (qW : Nat → Nat) (zW : WrS) (a1 : Int32) (res : Int32) (hf : f_X5_charAt zW a1 = some res) : MRi l yX5_charAt (.code yX5_charAt cX5_charAt 2 (some .char) :: wd) rm_X5_charAt G cA [.ref (qW 0), .int a1] ((wWr cA qW zW)) res := by
  refine Met.ofW (cc := cX5_charAt) (maxL := 2) (ret := (some .char)) (by decide) rfl ?_
  intro p e s m args below meth c s₁ B hml hv
  obtain ⟨rfl, hK, hR⟩ := hv
  have C0 : Amb p s m ([.ref (qW 0), .int a1] : List Value).toArray meth c cX5_charAt RX5 2 (some .char) G cA (fun _ : Nat => False) ((wWr cA qW zW)) := ⟨B.exec, B.bytes, B.returns, hml, findClass_of_methodNamed B.named, fun w h => atoms_spec (ws := (.code yX5_charAt cX5_charAt 2 (some .char) :: wd)) B.pre w (List.mem_cons_of_mem _ h), B.notSynchronized, hK, hR, fun _ _ _ h => h⟩
  have hl := lv_entry ([.ref (qW 0), .int a1]) (n := 2) (Nat.le_of_ble_eq_true rfl)
  rw [lg_entry_eq]
  generalize (lg_sl ([.ref (qW 0), .int a1]) ++ List.replicate (2 - (lg_sl ([.ref (qW 0), .int a1])).length) Slot.unset).toArray = ls at hl ⊢
  have hl : lv_has ls 2 [(0, .ref (qW 0)), (1, .int a1)] := hl
  exact b_X5_charAt_0 qW  zW C0 a1 ls hl hf
theorem cw_X5_charAt {R : Room} {s : State} {args : Array Value} {own : String} {index : Nat} (ht : ∀ w ∈ wd, w.before args s = true) (hlink : Cond.methodLink own index yX5_charAt ∈ wd) (hR : rm_X5_charAt.frames + 1 ≤ R.frames ∧ 8 + (2 + 11) + rm_X5_charAt.locals ≤ R.locals) : CallW R s args own RX5 index yX5_charAt cX5_charAt 2 (some .char) (.code yX5_charAt cX5_charAt 2 (some .char) :: wd) rm_X5_charAt 0 0 1 := cwV9 1 ht wi_217 wi_215 wi_216 wi_59 hlink (by decide +kernel) rfl rfl hR
def rm_X5_append : Room := { frames := 0, cells := 0, slots := 0, locals := 0 }
def f_X5_append (zW : WrS) (a1 : Int32) : Option (WrS) := if (1200 : Int32) ≤ (gW_len zW) then some zW else if inb (gW_len zW) 1200 = true then some (uW_len (uW_ch zW (upd (gW_ch zW) (gW_len zW).toNatClampNeg (vp_nar .char a1))) ((gW_len (uW_ch zW (upd (gW_ch zW) (gW_len zW).toNatClampNeg (vp_nar .char a1)))) + (1 : Int32))) else none
set_option maxHeartbeats 4000000 in
set_option maxRecDepth 100000 in
theorem b_X5_append_0 {p : Program} {l : Launch} {e : Env} {s : State} {m : MethodId} {args : Array Value} {below : List Frame} {meth : Method} {c : Code} {G : va_G} {cA : Nat → ClassId} {W9 : va_W} (qW : Nat → Nat) (C0 : Amb p s m args meth c cX5_append RX5 2 none G cA (adr W9) []) {res : WrS} : ∀ (zW : WrS) (a1 : Int32) (H : Heap) (locs : List Loc) (ls : Array Slot), va_P G vwCl ((wWr cA qW zW)) H → va_D (adr W9) ((wWr cA qW zW)) → va_S (adr W9) s.heap H locs → lv_has ls 2 [(0, .ref (qW 0)), (1, .int a1)] → f_X5_append zW a1 = some res → W p l e rm_X5_append s m args below meth c H locs 0 0 (MQ below (qWv G W9 ((wWr cA qW res))) args s 0 0 (adr W9)) (F0 m 0 ls []) := by
  obtain ⟨hx, hb, hr, hml, hown, hts, hlocks, hK, hR, hRA⟩ := id C0
  intro zW a1 H locs ls hP hD hS hl hf
  unfold f_X5_append at hf
  refine lv_aload_n hx hb dX5_append_0 rfl (lv_at hl 0 rfl) ?_
  refine va_get (D := G) (ci := 3) (v := .int (gW_len zW)) (C := RX5) (T := TX5) (N := 2) hx hb hts fin_X5 hown hK.1 hP 0 rfl rfl 1 (by decide) (hts _ wi_165) (fun _ h9 => h9) rfl dX5_append_1 ?_
  refine lv_sipush (v := (1200 : Int32)) hx hb dX5_append_4 (by decide) ?_
  refine lv_icmp_ge (tgt := 30) hx hb dX5_append_7 (by decide) (fun c_1 => ?_) (fun c_1 => ?_)
  · rw [if_pos (c_1)] at hf
    cases hf
    exact W.vret hx hb hr (fun t ht hW => ⟨⟨(), rfl, trivial, toT ht hP⟩, hS.F ht⟩) hS.2.2 dX5_append_30 hlocks
  · rw [if_neg (c_1)] at hf
    refine lv_aload_n hx hb dX5_append_10 rfl (lv_at hl 0 rfl) ?_
    refine va_get (D := G) (ci := 3) (v := .ref (qW 1)) (C := RX5) (T := TX5) (N := 2) hx hb hts fin_X5 hown hK.1 hP 0 rfl rfl 0 (by decide) (hts _ wi_164) (fun _ h9 => h9) rfl dX5_append_11 ?_
    refine lv_aload_n hx hb dX5_append_14 rfl (lv_at hl 0 rfl) ?_
    refine va_get (D := G) (ci := 3) (v := .int (gW_len zW)) (C := RX5) (T := TX5) (N := 2) hx hb hts fin_X5 hown hK.1 hP 0 rfl rfl 1 (by decide) (hts _ wi_165) (fun _ h9 => h9) rfl dX5_append_15 ?_
    refine lv_iload_n hx hb dX5_append_18 rfl (lv_at hl 1 rfl) ?_
    obtain ⟨hi_2, hf⟩ := oif hf
    refine va_cast hx hb hK.1 hP hD hS 1 2 rfl rfl (inb_in hi_2) dX5_append_19 (fun H locs hP hD hS => ?_)
    have hP := sW_ch_P hP
    have hD := sW_ch_D hD
    refine lv_aload_n hx hb dX5_append_20 rfl (lv_at hl 0 rfl) ?_
    refine lv_dup hx hb dX5_append_21 rfl ?_
    refine va_get (D := G) (ci := 3) (v := .int (gW_len (uW_ch zW (upd (gW_ch zW) (gW_len zW).toNatClampNeg (vp_nar .char a1))))) (C := RX5) (T := TX5) (N := 2) hx hb hts fin_X5 hown hK.1 hP 0 rfl rfl 1 (by decide) (hts _ wi_165) (fun _ h9 => h9) rfl dX5_append_22 ?_
    refine lv_iconst (v := 1) hx hb dX5_append_25 (by decide) ?_
    refine lv_iadd hx hb dX5_append_26 ?_
    refine va_put (D := G) (ci := 3) (v := .int ((gW_len (uW_ch zW (upd (gW_ch zW) (gW_len zW).toNatClampNeg (vp_nar .char a1)))) + (1 : Int32))) (ty := .int) (C := RX5) (T := TX5) (N := 2) hx hb hts fin_X5 tyX5 tyX5_ok nmX5 hown hK.1 hP hD hS 0 rfl rfl 1 (by decide) (hts _ wi_165) (fun _ h9 => h9) rfl (by decide +kernel) rfl rfl (Nat.le_of_ble_eq_true rfl) dX5_append_27 (fun H locs hP hD hS => ?_)
    have hP := sW_len_P hP
    have hD := sW_len_D hD
    cases hf
    exact W.vret hx hb hr (fun t ht hW => ⟨⟨(), rfl, trivial, toT ht hP⟩, hS.F ht⟩) hS.2.2 dX5_append_30 hlocks

set_option maxRecDepth 100000 in
theorem m_X5_append (l : Launch) (G : va_G) (cA : Nat → ClassId) (qW : Nat → Nat) (zW : WrS) (a1 : Int32) (res : WrS) (hf : f_X5_append zW a1 = some res) : MWv l yX5_append (.code yX5_append cX5_append 2 none :: wd) rm_X5_append G cA [.ref (qW 0), .int a1] ((wWr cA qW zW)) [] ((wWr cA qW res)) := by
  refine Met.ofW (cc := cX5_append) (maxL := 2) (ret := none) (by decide) rfl ?_
  intro p e s m args below meth c s₁ B hml hv
  obtain ⟨rfl, hK, hP, hD0, hR, hRA⟩ := hv
  have C0 : Amb p s m ([.ref (qW 0), .int a1] : List Value).toArray meth c cX5_append RX5 2 none G cA (adr ((wWr cA qW zW))) [] := ⟨B.exec, B.bytes, B.returns, hml, findClass_of_methodNamed B.named, fun w h => atoms_spec (ws := (.code yX5_append cX5_append 2 none :: wd)) B.pre w (List.mem_cons_of_mem _ h), B.notSynchronized, hK, hR, hRA⟩
  have hl := lv_entry ([.ref (qW 0), .int a1]) (n := 2) (Nat.le_of_ble_eq_true rfl)
  rw [lg_entry_eq]
  generalize (lg_sl ([.ref (qW 0), .int a1]) ++ List.replicate (2 - (lg_sl ([.ref (qW 0), .int a1])).length) Slot.unset).toArray = ls at hl ⊢
  have hl : lv_has ls 2 [(0, .ref (qW 0)), (1, .int a1)] := hl
  exact b_X5_append_0 (W9 := ((wWr cA qW zW))) qW   C0 zW a1 s.heap [] ls hP (adr.self hD0) va_S.rf hl hf
theorem cw_X5_append {R : Room} {s : State} {args : Array Value} {own : String} {index : Nat} (ht : ∀ w ∈ wd, w.before args s = true) (hlink : Cond.methodLink own index yX5_append ∈ wd) (hR : rm_X5_append.frames + 1 ≤ R.frames ∧ 8 + (2 + 11) + rm_X5_append.locals ≤ R.locals) : CallW R s args own RX5 index yX5_append cX5_append 2 none (.code yX5_append cX5_append 2 none :: wd) rm_X5_append 0 0 1 := cwV9 1 ht wi_487 wi_486 wi_21 wi_59 hlink (by decide +kernel) rfl rfl hR
def rm_X5_writeNumber : Room := { frames := 1, cells := 0, slots := 0, locals := 30 }
def f_X5_writeNumber_81 (kb_25 : WrS → Int64 → Int32 → Int64 → Option (WrS)) (zW : WrS) (x3 : Int64) (x5 : Int32) (x6 : Int64) : Option (WrS) := (some ((x6 / (10 : Int64)))).bind fun y_1 => kb_25 zW x3 x5 y_1
set_option maxHeartbeats 4000000 in
set_option maxRecDepth 100000 in
theorem b_X5_writeNumber_81 {p : Program} {l : Launch} {e : Env} {s : State} {m : MethodId} {args : Array Value} {below : List Frame} {meth : Method} {c : Code} {G : va_G} {cA : Nat → ClassId} {W9 : va_W} (qW : Nat → Nat) (C0 : Amb p s m args meth c cX5_writeNumber RX5 8 none G cA (adr W9) []) {res : WrS} (kb_25 : WrS → Int64 → Int32 → Int64 → Option (WrS)) (hkb_25 : ∀ (zW : WrS) (x3 : Int64) (x5 : Int32) (x6 : Int64) (H : Heap) (locs : List Loc) (ls : Array Slot), va_P G vwCl ((wWr cA qW zW)) H → va_D (adr W9) ((wWr cA qW zW)) → va_S (adr W9) s.heap H locs → lv_has ls 8 [(0, .ref (qW 0)), (3, .long x3), (5, .int x5), (6, .long x6)] → kb_25 zW x3 x5 x6 = some res → W p l e rm_X5_writeNumber s m args below meth c H locs 0 0 (MQ below (qWv G W9 ((wWr cA qW res))) args s 0 0 (adr W9)) (F0 m 25 ls [])) : ∀ (zW : WrS) (x3 : Int64) (x5 : Int32) (x6 : Int64) (H : Heap) (locs : List Loc) (ls : Array Slot), va_P G vwCl ((wWr cA qW zW)) H → va_D (adr W9) ((wWr cA qW zW)) → va_S (adr W9) s.heap H locs → lv_has ls 8 [(0, .ref (qW 0)), (3, .long x3), (5, .int x5), (6, .long x6)] → f_X5_writeNumber_81 kb_25 zW x3 x5 x6 = some res → W p l e rm_X5_writeNumber s m args below meth c H locs 0 0 (MQ below (qWv G W9 ((wWr cA qW res))) args s 0 0 (adr W9)) (F0 m 81 ls []) := by
  obtain ⟨hx, hb, hr, hml, hown, hts, hlocks, hK, hR, hRA⟩ := id C0
  intro zW x3 x5 x6 H locs ls hP hD hS hl hf
  unfold f_X5_writeNumber_81 at hf
  refine lv_lload hx hb dX5_writeNumber_81 (lv_at hl 3 rfl) ?_
  refine lv_ldc2 (v := (10 : Int64)) hx hb hown (hts _ wi_508) dX5_writeNumber_83 ?_
  refine lv_ldiv hx hb dX5_writeNumber_86 (by decide) ?_
  obtain ⟨y_1, hq, hf⟩ := obd hf
  have hy_1 : (x6 / (10 : Int64)) = y_1 := Option.some.inj hq
  rw [hy_1]
  refine lv_lstore (lv' := [(6, .long y_1), (0, .ref (qW 0)), (3, .long x3), (5, .int x5)]) hx hb dX5_writeNumber_87 hl (by decide) rfl (fun ls hl => ?_)
  refine lv_goto (tgt := 25) hx hb dX5_writeNumber_89 (by decide) ?_
  exact hkb_25 zW x3 x5 y_1 H locs ls hP hD hS (lv_sub hl [1, 2, 3, 0] rfl) hf
def f_X5_writeNumber_56 (kb_25 : WrS → Int64 → Int32 → Int64 → Option (WrS)) (zW : WrS) (x3 : Int64) (x6 : Int64) (v0 : Int32) : Option (WrS) := if v0 = 0 then f_X5_writeNumber_81 kb_25 zW x3 v0 x6 else if ¬ x6 = 0 then (f_X5_append zW ((((((48 : Int64) + ((x3 / x6) - (x3 / x6) / (10 : Int64) * (10 : Int64)))).toInt32).toUInt32 % 65536).toInt32)).bind fun r_3 => f_X5_writeNumber_81 kb_25 r_3 x3 v0 x6 else none
set_option maxHeartbeats 4000000 in
set_option maxRecDepth 100000 in
theorem b_X5_writeNumber_56 {p : Program} {l : Launch} {e : Env} {s : State} {m : MethodId} {args : Array Value} {below : List Frame} {meth : Method} {c : Code} {G : va_G} {cA : Nat → ClassId} {W9 : va_W} (qW : Nat → Nat) (C0 : Amb p s m args meth c cX5_writeNumber RX5 8 none G cA (adr W9) []) {res : WrS} (kb_25 : WrS → Int64 → Int32 → Int64 → Option (WrS)) (hkb_25 : ∀ (zW : WrS) (x3 : Int64) (x5 : Int32) (x6 : Int64) (H : Heap) (locs : List Loc) (ls : Array Slot), va_P G vwCl ((wWr cA qW zW)) H → va_D (adr W9) ((wWr cA qW zW)) → va_S (adr W9) s.heap H locs → lv_has ls 8 [(0, .ref (qW 0)), (3, .long x3), (5, .int x5), (6, .long x6)] → kb_25 zW x3 x5 x6 = some res → W p l e rm_X5_writeNumber s m args below meth c H locs 0 0 (MQ below (qWv G W9 ((wWr cA qW res))) args s 0 0 (adr W9)) (F0 m 25 ls [])) : ∀ (zW : WrS) (x3 : Int64) (x6 : Int64) (v0 : Int32) (H : Heap) (locs : List Loc) (ls : Array Slot), va_P G vwCl ((wWr cA qW zW)) H → va_D (adr W9) ((wWr cA qW zW)) → va_S (adr W9) s.heap H locs → lv_has ls 8 [(0, .ref (qW 0)), (3, .long x3), (6, .long x6)] → f_X5_writeNumber_56 kb_25 zW x3 x6 v0 = some res → W p l e rm_X5_writeNumber s m args below meth c H locs 0 0 (MQ below (qWv G W9 ((wWr cA qW res))) args s 0 0 (adr W9)) (F0 m 56 ls [.int v0]) := by
  obtain ⟨hx, hb, hr, hml, hown, hts, hlocks, hK, hR, hRA⟩ := id C0
  intro zW x3 x6 v0 H locs ls hP hD hS hl hf
  unfold f_X5_writeNumber_56 at hf
  refine lv_istore (lv' := [(5, .int v0), (0, .ref (qW 0)), (3, .long x3), (6, .long x6)]) hx hb dX5_writeNumber_56 hl (by decide) rfl (fun ls hl => ?_)
  refine lv_iload hx hb dX5_writeNumber_58 (lv_at hl 0 rfl) ?_
  refine lv_if_eq (tgt := 81) hx hb dX5_writeNumber_60 (by decide) (fun c_1 => ?_) (fun c_1 => ?_)
  · rw [if_pos (c_1)] at hf
    exact b_X5_writeNumber_81 qW   C0 kb_25 hkb_25 zW x3 v0 x6 H locs ls hP hD hS (lv_sub hl [1, 2, 0, 3] rfl) hf
  · rw [if_neg (c_1)] at hf
    refine lv_aload_n hx hb dX5_writeNumber_63 rfl (lv_at hl 1 rfl) ?_
    refine lv_ldc2 (v := (48 : Int64)) hx hb hown (hts _ wi_507) dX5_writeNumber_64 ?_
    refine lv_lload_n hx hb dX5_writeNumber_67 rfl (lv_at hl 2 rfl) ?_
    refine lv_lload hx hb dX5_writeNumber_68 (lv_at hl 3 rfl) ?_
    obtain ⟨hn_2, hf⟩ := oif hf
    refine lv_ldiv hx hb dX5_writeNumber_70 hn_2 ?_
    refine lv_ldc2 (v := (10 : Int64)) hx hb hown (hts _ wi_508) dX5_writeNumber_71 ?_
    refine lv_lrem hx hb dX5_writeNumber_74 (by decide) ?_
    refine lv_ladd hx hb dX5_writeNumber_75 ?_
    refine lv_l2i hx hb dX5_writeNumber_76 rfl ?_
    refine lv_i2c hx hb dX5_writeNumber_77 rfl ?_
    obtain ⟨r_3, hr_3, hf⟩ := obd hf
    refine cWvV (As := [.int ((((((48 : Int64) + ((x3 / x6) - (x3 / x6) / (10 : Int64) * (10 : Int64)))).toInt32).toUInt32 % 65536).toInt32)]) (rest := []) (W1 := ((wWr cA qW r_3))) ⟨hx, hb, hml, hown, hts⟩ (m_X5_append l G cA qW zW ((((((48 : Int64) + ((x3 / x6) - (x3 / x6) / (10 : Int64) * (10 : Int64)))).toInt32).toUInt32 % 65536).toInt32) r_3 hr_3) (cw_X5_append hts wi_484 ⟨Nat.le_of_ble_eq_true rfl, Nat.le_of_ble_eq_true rfl⟩) hK hP hD hS [0, 1] [2, 3] rfl rfl rfl (by decide) rfl va_Pnil dj_nil (va_recv hK.1 hP (ci := 3) (q0 := 0) rfl rfl) rfl hl.1 rfl (Nat.le_of_ble_eq_true rfl) dX5_writeNumber_78 ⟨Nat.zero_le _, Nat.zero_le _⟩ (fun H locs hP hD hS => ?_)
    exact b_X5_writeNumber_81 qW   C0 kb_25 hkb_25 r_3 x3 v0 x6 H locs ls hP hD hS (lv_sub hl [1, 2, 0, 3] rfl) hf
def f_X5_writeNumber_51 (kb_25 : WrS → Int64 → Int32 → Int64 → Option (WrS)) (zW : WrS) (x3 : Int64) (x6 : Int64) : Option (WrS) := f_X5_writeNumber_56 kb_25 zW x3 x6 (1 : Int32)
set_option maxHeartbeats 4000000 in
set_option maxRecDepth 100000 in
theorem b_X5_writeNumber_51 {p : Program} {l : Launch} {e : Env} {s : State} {m : MethodId} {args : Array Value} {below : List Frame} {meth : Method} {c : Code} {G : va_G} {cA : Nat → ClassId} {W9 : va_W} (qW : Nat → Nat) (C0 : Amb p s m args meth c cX5_writeNumber RX5 8 none G cA (adr W9) []) {res : WrS} (kb_25 : WrS → Int64 → Int32 → Int64 → Option (WrS)) (hkb_25 : ∀ (zW : WrS) (x3 : Int64) (x5 : Int32) (x6 : Int64) (H : Heap) (locs : List Loc) (ls : Array Slot), va_P G vwCl ((wWr cA qW zW)) H → va_D (adr W9) ((wWr cA qW zW)) → va_S (adr W9) s.heap H locs → lv_has ls 8 [(0, .ref (qW 0)), (3, .long x3), (5, .int x5), (6, .long x6)] → kb_25 zW x3 x5 x6 = some res → W p l e rm_X5_writeNumber s m args below meth c H locs 0 0 (MQ below (qWv G W9 ((wWr cA qW res))) args s 0 0 (adr W9)) (F0 m 25 ls [])) : ∀ (zW : WrS) (x3 : Int64) (x6 : Int64) (H : Heap) (locs : List Loc) (ls : Array Slot), va_P G vwCl ((wWr cA qW zW)) H → va_D (adr W9) ((wWr cA qW zW)) → va_S (adr W9) s.heap H locs → lv_has ls 8 [(0, .ref (qW 0)), (3, .long x3), (6, .long x6)] → f_X5_writeNumber_51 kb_25 zW x3 x6 = some res → W p l e rm_X5_writeNumber s m args below meth c H locs 0 0 (MQ below (qWv G W9 ((wWr cA qW res))) args s 0 0 (adr W9)) (F0 m 51 ls []) := by
  obtain ⟨hx, hb, hr, hml, hown, hts, hlocks, hK, hR, hRA⟩ := id C0
  intro zW x3 x6 H locs ls hP hD hS hl hf
  unfold f_X5_writeNumber_51 at hf
  refine lv_iconst (v := 1) hx hb dX5_writeNumber_51 (by decide) ?_
  refine lv_goto (tgt := 56) hx hb dX5_writeNumber_52 (by decide) ?_
  exact b_X5_writeNumber_56 qW   C0 kb_25 hkb_25 zW x3 x6 (1 : Int32) H locs ls hP hD hS (lv_sub hl [0, 1, 2] rfl) hf
def f_X5_writeNumber_25  : Nat → WrS → Int64 → Int32 → Int64 → Option (WrS)
  | 0, _, _, _, _ => none
  | fu + 1, zW, x3, x5, x6 => if x6 ≤ (0 : Int64) then some zW else if ¬ x5 = 0 then f_X5_writeNumber_51 (fun zW_ x3_ x5_ x6_ => f_X5_writeNumber_25  fu zW_ x3_ x5_ x6_) zW x3 x6 else if x6 ≤ x3 then f_X5_writeNumber_51 (fun zW_ x3_ x5_ x6_ => f_X5_writeNumber_25  fu zW_ x3_ x5_ x6_) zW x3 x6 else if ¬ x6 = (1 : Int64) then f_X5_writeNumber_56 (fun zW_ x3_ x5_ x6_ => f_X5_writeNumber_25  fu zW_ x3_ x5_ x6_) zW x3 x6 (0 : Int32) else f_X5_writeNumber_51 (fun zW_ x3_ x5_ x6_ => f_X5_writeNumber_25  fu zW_ x3_ x5_ x6_) zW x3 x6
set_option maxHeartbeats 4000000 in
set_option maxRecDepth 100000 in
theorem b_X5_writeNumber_25 {p : Program} {l : Launch} {e : Env} {s : State} {m : MethodId} {args : Array Value} {below : List Frame} {meth : Method} {c : Code} {G : va_G} {cA : Nat → ClassId} {W9 : va_W} (qW : Nat → Nat) (C0 : Amb p s m args meth c cX5_writeNumber RX5 8 none G cA (adr W9) []) {res : WrS} : ∀ (fu : Nat) (zW : WrS) (x3 : Int64) (x5 : Int32) (x6 : Int64) (H : Heap) (locs : List Loc) (ls : Array Slot), va_P G vwCl ((wWr cA qW zW)) H → va_D (adr W9) ((wWr cA qW zW)) → va_S (adr W9) s.heap H locs → lv_has ls 8 [(0, .ref (qW 0)), (3, .long x3), (5, .int x5), (6, .long x6)] → f_X5_writeNumber_25 fu zW x3 x5 x6 = some res → W p l e rm_X5_writeNumber s m args below meth c H locs 0 0 (MQ below (qWv G W9 ((wWr cA qW res))) args s 0 0 (adr W9)) (F0 m 25 ls []) := by
  obtain ⟨hx, hb, hr, hml, hown, hts, hlocks, hK, hR, hRA⟩ := id C0
  intro fu
  induction fu with
  | zero =>
    intro zW x3 x5 x6 H locs ls hP hD hS hl hf
    rw [f_X5_writeNumber_25] at hf
    cases hf
  | succ fu ih =>
    intro zW x3 x5 x6 H locs ls hP hD hS hl hf
    rw [f_X5_writeNumber_25] at hf
    refine lv_lload hx hb dX5_writeNumber_25 (lv_at hl 3 rfl) ?_
    refine lv_lconst (v := (0 : Int64)) hx hb dX5_writeNumber_27 (by decide) ?_
    refine W.lcmp hx hb dX5_writeNumber_28 ?_
    refine lv_if_le (tgt := 92) hx hb dX5_writeNumber_29 (by decide) (fun c_1 => ?_) (fun c_1 => ?_)
    · rw [if_pos ((lg_cmp_le _ _).mp c_1)] at hf
      cases hf
      exact W.vret hx hb hr (fun t ht hW => ⟨⟨(), rfl, trivial, toT ht hP⟩, hS.F ht⟩) hS.2.2 dX5_writeNumber_92 hlocks
    · rw [if_neg (fun h => c_1 ((lg_cmp_le _ _).mpr h))] at hf
      refine lv_iload hx hb dX5_writeNumber_32 (lv_at hl 2 rfl) ?_
      refine lv_if_ne (tgt := 51) hx hb dX5_writeNumber_34 (by decide) (fun c_2 => ?_) (fun c_2 => ?_)
      · rw [if_pos (c_2)] at hf
        exact b_X5_writeNumber_51 qW   C0 (fun zW_ x3_ x5_ x6_ => f_X5_writeNumber_25  fu zW_ x3_ x5_ x6_) ih zW x3 x6 H locs ls hP hD hS (lv_sub hl [0, 1, 3] rfl) hf
      · rw [if_neg (not_not_intro c_2)] at hf
        refine lv_lload_n hx hb dX5_writeNumber_37 rfl (lv_at hl 1 rfl) ?_
        refine lv_lload hx hb dX5_writeNumber_38 (lv_at hl 3 rfl) ?_
        refine W.lcmp hx hb dX5_writeNumber_40 ?_
        refine lv_if_ge (tgt := 51) hx hb dX5_writeNumber_41 (by decide) (fun c_3 => ?_) (fun c_3 => ?_)
        · rw [if_pos ((lg_cmp_ge _ _).mp c_3)] at hf
          exact b_X5_writeNumber_51 qW   C0 (fun zW_ x3_ x5_ x6_ => f_X5_writeNumber_25  fu zW_ x3_ x5_ x6_) ih zW x3 x6 H locs ls hP hD hS (lv_sub hl [0, 1, 3] rfl) hf
        · rw [if_neg (fun h => c_3 ((lg_cmp_ge _ _).mpr h))] at hf
          refine lv_lload hx hb dX5_writeNumber_44 (lv_at hl 3 rfl) ?_
          refine lv_lconst (v := (1 : Int64)) hx hb dX5_writeNumber_46 (by decide) ?_
          refine W.lcmp hx hb dX5_writeNumber_47 ?_
          refine lv_if_ne (tgt := 55) hx hb dX5_writeNumber_48 (by decide) (fun c_4 => ?_) (fun c_4 => ?_)
          · rw [if_pos (fun h => c_4 ((lg_cmp_eq _ _).mpr h))] at hf
            refine lv_iconst (v := 0) hx hb dX5_writeNumber_55 (by decide) ?_
            exact b_X5_writeNumber_56 qW   C0 (fun zW_ x3_ x5_ x6_ => f_X5_writeNumber_25  fu zW_ x3_ x5_ x6_) ih zW x3 x6 (0 : Int32) H locs ls hP hD hS (lv_sub hl [0, 1, 3] rfl) hf
          · rw [if_neg (fun h => h ((lg_cmp_eq _ _).mp c_4))] at hf
            exact b_X5_writeNumber_51 qW   C0 (fun zW_ x3_ x5_ x6_ => f_X5_writeNumber_25  fu zW_ x3_ x5_ x6_) ih zW x3 x6 H locs ls hP hD hS (lv_sub hl [0, 1, 3] rfl) hf
def f_X5_writeNumber_12 (zW : WrS) (x1 : Int64) : Option (WrS) := (some ((mabs64 x1))).bind fun y_1 => f_X5_writeNumber_25 fuel zW y_1 (0 : Int32) (10000000000 : Int64)
set_option maxHeartbeats 4000000 in
set_option maxRecDepth 100000 in
theorem b_X5_writeNumber_12 {p : Program} {l : Launch} {e : Env} {s : State} {m : MethodId} {args : Array Value} {below : List Frame} {meth : Method} {c : Code} {G : va_G} {cA : Nat → ClassId} {W9 : va_W} (qW : Nat → Nat) (C0 : Amb p s m args meth c cX5_writeNumber RX5 8 none G cA (adr W9) []) {res : WrS} : ∀ (zW : WrS) (x1 : Int64) (H : Heap) (locs : List Loc) (ls : Array Slot), va_P G vwCl ((wWr cA qW zW)) H → va_D (adr W9) ((wWr cA qW zW)) → va_S (adr W9) s.heap H locs → lv_has ls 8 [(0, .ref (qW 0)), (1, .long x1)] → f_X5_writeNumber_12 zW x1 = some res → W p l e rm_X5_writeNumber s m args below meth c H locs 0 0 (MQ below (qWv G W9 ((wWr cA qW res))) args s 0 0 (adr W9)) (F0 m 12 ls []) := by
  obtain ⟨hx, hb, hr, hml, hown, hts, hlocks, hK, hR, hRA⟩ := id C0
  intro zW x1 H locs ls hP hD hS hl hf
  unfold f_X5_writeNumber_12 at hf
  refine lv_lload_n hx hb dX5_writeNumber_12 rfl (lv_at hl 1 rfl) ?_
  refine k_abs64 hx hb (hml.trans hl.1.symm) hown hts wi_493 (Nat.le_of_ble_eq_true rfl) (Nat.le_of_ble_eq_true rfl) (Nat.zero_le _) (Nat.zero_le _) dX5_writeNumber_13 ?_
  obtain ⟨y_1, hq, hf⟩ := obd hf
  have hy_1 : (mabs64 x1) = y_1 := Option.some.inj hq
  rw [hy_1]
  refine lv_lstore_n (lv' := [(3, .long y_1), (0, .ref (qW 0)), (1, .long x1)]) hx hb dX5_writeNumber_16 rfl hl (by decide) rfl (fun ls hl => ?_)
  refine lv_iconst (v := 0) hx hb dX5_writeNumber_17 (by decide) ?_
  refine lv_istore (lv' := [(5, .int (0 : Int32)), (3, .long y_1), (0, .ref (qW 0)), (1, .long x1)]) hx hb dX5_writeNumber_18 hl (by decide) rfl (fun ls hl => ?_)
  refine lv_ldc2 (v := (10000000000 : Int64)) hx hb hown (hts _ wi_506) dX5_writeNumber_20 ?_
  refine lv_lstore (lv' := [(6, .long (10000000000 : Int64)), (5, .int (0 : Int32)), (3, .long y_1), (0, .ref (qW 0)), (1, .long x1)]) hx hb dX5_writeNumber_23 hl (by decide) rfl (fun ls hl => ?_)
  exact b_X5_writeNumber_25 qW   C0  fuel zW y_1 (0 : Int32) (10000000000 : Int64) H locs ls hP hD hS (lv_sub hl [3, 2, 1, 0] rfl) hf
def f_X5_writeNumber (zW : WrS) (a1 : Int64) : Option (WrS) := if (0 : Int64) ≤ a1 then f_X5_writeNumber_12  zW a1 else (f_X5_append zW (45 : Int32)).bind fun r_2 => f_X5_writeNumber_12  r_2 a1
set_option maxHeartbeats 4000000 in
set_option maxRecDepth 100000 in
theorem b_X5_writeNumber_0 {p : Program} {l : Launch} {e : Env} {s : State} {m : MethodId} {args : Array Value} {below : List Frame} {meth : Method} {c : Code} {G : va_G} {cA : Nat → ClassId} {W9 : va_W} (qW : Nat → Nat) (C0 : Amb p s m args meth c cX5_writeNumber RX5 8 none G cA (adr W9) []) {res : WrS} : ∀ (zW : WrS) (a1 : Int64) (H : Heap) (locs : List Loc) (ls : Array Slot), va_P G vwCl ((wWr cA qW zW)) H → va_D (adr W9) ((wWr cA qW zW)) → va_S (adr W9) s.heap H locs → lv_has ls 8 [(0, .ref (qW 0)), (1, .long a1)] → f_X5_writeNumber zW a1 = some res → W p l e rm_X5_writeNumber s m args below meth c H locs 0 0 (MQ below (qWv G W9 ((wWr cA qW res))) args s 0 0 (adr W9)) (F0 m 0 ls []) := by
  obtain ⟨hx, hb, hr, hml, hown, hts, hlocks, hK, hR, hRA⟩ := id C0
  intro zW a1 H locs ls hP hD hS hl hf
  unfold f_X5_writeNumber at hf
  refine lv_lload_n hx hb dX5_writeNumber_0 rfl (lv_at hl 1 rfl) ?_
  refine lv_lconst (v := (0 : Int64)) hx hb dX5_writeNumber_1 (by decide) ?_
  refine W.lcmp hx hb dX5_writeNumber_2 ?_
  refine lv_if_ge (tgt := 12) hx hb dX5_writeNumber_3 (by decide) (fun c_1 => ?_) (fun c_1 => ?_)
  · rw [if_pos ((lg_cmp_ge _ _).mp c_1)] at hf
    exact b_X5_writeNumber_12 qW   C0  zW a1 H locs ls hP hD hS (lv_sub hl [0, 1] rfl) hf
  · rw [if_neg (fun h => c_1 ((lg_cmp_ge _ _).mpr h))] at hf
    refine lv_aload_n hx hb dX5_writeNumber_6 rfl (lv_at hl 0 rfl) ?_
    refine lv_bipush (v := (45 : Int32)) hx hb dX5_writeNumber_7 (by decide) ?_
    obtain ⟨r_2, hr_2, hf⟩ := obd hf
    refine cWvV (As := [.int (45 : Int32)]) (rest := []) (W1 := ((wWr cA qW r_2))) ⟨hx, hb, hml, hown, hts⟩ (m_X5_append l G cA qW zW (45 : Int32) r_2 hr_2) (cw_X5_append hts wi_484 ⟨Nat.le_of_ble_eq_true rfl, Nat.le_of_ble_eq_true rfl⟩) hK hP hD hS [0, 1] [2, 3] rfl rfl rfl (by decide) rfl va_Pnil dj_nil (va_recv hK.1 hP (ci := 3) (q0 := 0) rfl rfl) rfl hl.1 rfl (Nat.le_of_ble_eq_true rfl) dX5_writeNumber_9 ⟨Nat.zero_le _, Nat.zero_le _⟩ (fun H locs hP hD hS => ?_)
    exact b_X5_writeNumber_12 qW   C0  r_2 a1 H locs ls hP hD hS (lv_sub hl [0, 1] rfl) hf

set_option maxRecDepth 100000 in
theorem m_X5_writeNumber (l : Launch) (G : va_G) (cA : Nat → ClassId) (qW : Nat → Nat) (zW : WrS) (a1 : Int64) (res : WrS) (hf : f_X5_writeNumber zW a1 = some res) : MWv l yX5_writeNumber (.code yX5_writeNumber cX5_writeNumber 8 none :: wd) rm_X5_writeNumber G cA [.ref (qW 0), .long a1] ((wWr cA qW zW)) [] ((wWr cA qW res)) := by
  refine Met.ofW (cc := cX5_writeNumber) (maxL := 8) (ret := none) (by decide) rfl ?_
  intro p e s m args below meth c s₁ B hml hv
  obtain ⟨rfl, hK, hP, hD0, hR, hRA⟩ := hv
  have C0 : Amb p s m ([.ref (qW 0), .long a1] : List Value).toArray meth c cX5_writeNumber RX5 8 none G cA (adr ((wWr cA qW zW))) [] := ⟨B.exec, B.bytes, B.returns, hml, findClass_of_methodNamed B.named, fun w h => atoms_spec (ws := (.code yX5_writeNumber cX5_writeNumber 8 none :: wd)) B.pre w (List.mem_cons_of_mem _ h), B.notSynchronized, hK, hR, hRA⟩
  have hl := lv_entry ([.ref (qW 0), .long a1]) (n := 8) (Nat.le_of_ble_eq_true rfl)
  rw [lg_entry_eq]
  generalize (lg_sl ([.ref (qW 0), .long a1]) ++ List.replicate (8 - (lg_sl ([.ref (qW 0), .long a1])).length) Slot.unset).toArray = ls at hl ⊢
  have hl : lv_has ls 8 [(0, .ref (qW 0)), (1, .long a1)] := hl
  exact b_X5_writeNumber_0 (W9 := ((wWr cA qW zW))) qW   C0 zW a1 s.heap [] ls hP (adr.self hD0) va_S.rf hl hf
theorem cw_X5_writeNumber {R : Room} {s : State} {args : Array Value} {own : String} {index : Nat} (ht : ∀ w ∈ wd, w.before args s = true) (hlink : Cond.methodLink own index yX5_writeNumber ∈ wd) (hR : rm_X5_writeNumber.frames + 1 ≤ R.frames ∧ 8 + (8 + 11) + rm_X5_writeNumber.locals ≤ R.locals) : CallW R s args own RX5 index yX5_writeNumber cX5_writeNumber 8 none (.code yX5_writeNumber cX5_writeNumber 8 none :: wd) rm_X5_writeNumber 0 0 1 := cwV9 1 ht wi_505 wi_504 wi_23 wi_59 hlink (by decide +kernel) rfl rfl hR
def rm_X5_writeMultiple : Room := { frames := 2, cells := 0, slots := 0, locals := 57 }
def f_X5_writeMultiple_31 (zW : WrS) : Option (WrS) := (f_X5_append zW (120 : Int32)).bind fun r_1 => (f_X5_append r_1 (41 : Int32)).bind fun r_2 => some r_2
set_option maxHeartbeats 4000000 in
set_option maxRecDepth 100000 in
theorem b_X5_writeMultiple_31 {p : Program} {l : Launch} {e : Env} {s : State} {m : MethodId} {args : Array Value} {below : List Frame} {meth : Method} {c : Code} {G : va_G} {cA : Nat → ClassId} {W9 : va_W} (qW : Nat → Nat) (C0 : Amb p s m args meth c cX5_writeMultiple RX5 2 none G cA (adr W9) []) {res : WrS} : ∀ (zW : WrS) (H : Heap) (locs : List Loc) (ls : Array Slot), va_P G vwCl ((wWr cA qW zW)) H → va_D (adr W9) ((wWr cA qW zW)) → va_S (adr W9) s.heap H locs → lv_has ls 2 [(0, .ref (qW 0))] → f_X5_writeMultiple_31 zW = some res → W p l e rm_X5_writeMultiple s m args below meth c H locs 0 0 (MQ below (qWv G W9 ((wWr cA qW res))) args s 0 0 (adr W9)) (F0 m 31 ls []) := by
  obtain ⟨hx, hb, hr, hml, hown, hts, hlocks, hK, hR, hRA⟩ := id C0
  intro zW H locs ls hP hD hS hl hf
  unfold f_X5_writeMultiple_31 at hf
  refine lv_aload_n hx hb dX5_writeMultiple_31 rfl (lv_at hl 0 rfl) ?_
  refine lv_bipush (v := (120 : Int32)) hx hb dX5_writeMultiple_32 (by decide) ?_
  obtain ⟨r_1, hr_1, hf⟩ := obd hf
  refine cWvV (As := [.int (120 : Int32)]) (rest := []) (W1 := ((wWr cA qW r_1))) ⟨hx, hb, hml, hown, hts⟩ (m_X5_append l G cA qW zW (120 : Int32) r_1 hr_1) (cw_X5_append hts wi_484 ⟨Nat.le_of_ble_eq_true rfl, Nat.le_of_ble_eq_true rfl⟩) hK hP hD hS [0, 1] [2, 3] rfl rfl rfl (by decide) rfl va_Pnil dj_nil (va_recv hK.1 hP (ci := 3) (q0 := 0) rfl rfl) rfl hl.1 rfl (Nat.le_of_ble_eq_true rfl) dX5_writeMultiple_34 ⟨Nat.zero_le _, Nat.zero_le _⟩ (fun H locs hP hD hS => ?_)
  refine lv_aload_n hx hb dX5_writeMultiple_37 rfl (lv_at hl 0 rfl) ?_
  refine lv_bipush (v := (41 : Int32)) hx hb dX5_writeMultiple_38 (by decide) ?_
  obtain ⟨r_2, hr_2, hf⟩ := obd hf
  refine cWvV (As := [.int (41 : Int32)]) (rest := []) (W1 := ((wWr cA qW r_2))) ⟨hx, hb, hml, hown, hts⟩ (m_X5_append l G cA qW r_1 (41 : Int32) r_2 hr_2) (cw_X5_append hts wi_484 ⟨Nat.le_of_ble_eq_true rfl, Nat.le_of_ble_eq_true rfl⟩) hK hP hD hS [0, 1] [2, 3] rfl rfl rfl (by decide) rfl va_Pnil dj_nil (va_recv hK.1 hP (ci := 3) (q0 := 0) rfl rfl) rfl hl.1 rfl (Nat.le_of_ble_eq_true rfl) dX5_writeMultiple_40 ⟨Nat.zero_le _, Nat.zero_le _⟩ (fun H locs hP hD hS => ?_)
  cases hf
  exact W.vret hx hb hr (fun t ht hW => ⟨⟨(), rfl, trivial, toT ht hP⟩, hS.F ht⟩) hS.2.2 dX5_writeMultiple_43 hlocks
def f_X5_writeMultiple (zW : WrS) (a1 : Int32) : Option (WrS) := (f_X5_append zW (40 : Int32)).bind fun r_1 => if ¬ a1 = (-1 : Int32) then if a1 = (1 : Int32) then f_X5_writeMultiple_31  r_1 else (f_X5_writeNumber r_1 a1.toInt64).bind fun r_4 => f_X5_writeMultiple_31  r_4 else (f_X5_append r_1 (45 : Int32)).bind fun r_5 => f_X5_writeMultiple_31  r_5
set_option maxHeartbeats 4000000 in
set_option maxRecDepth 100000 in
theorem b_X5_writeMultiple_0 {p : Program} {l : Launch} {e : Env} {s : State} {m : MethodId} {args : Array Value} {below : List Frame} {meth : Method} {c : Code} {G : va_G} {cA : Nat → ClassId} {W9 : va_W} (qW : Nat → Nat) (C0 : Amb p s m args meth c cX5_writeMultiple RX5 2 none G cA (adr W9) []) {res : WrS} : ∀ (zW : WrS) (a1 : Int32) (H : Heap) (locs : List Loc) (ls : Array Slot), va_P G vwCl ((wWr cA qW zW)) H → va_D (adr W9) ((wWr cA qW zW)) → va_S (adr W9) s.heap H locs → lv_has ls 2 [(0, .ref (qW 0)), (1, .int a1)] → f_X5_writeMultiple zW a1 = some res → W p l e rm_X5_writeMultiple s m args below meth c H locs 0 0 (MQ below (qWv G W9 ((wWr cA qW res))) args s 0 0 (adr W9)) (F0 m 0 ls []) := by
  obtain ⟨hx, hb, hr, hml, hown, hts, hlocks, hK, hR, hRA⟩ := id C0
  intro zW a1 H locs ls hP hD hS hl hf
  unfold f_X5_writeMultiple at hf
  refine lv_aload_n hx hb dX5_writeMultiple_0 rfl (lv_at hl 0 rfl) ?_
  refine lv_bipush (v := (40 : Int32)) hx hb dX5_writeMultiple_1 (by decide) ?_
  obtain ⟨r_1, hr_1, hf⟩ := obd hf
  refine cWvV (As := [.int (40 : Int32)]) (rest := []) (W1 := ((wWr cA qW r_1))) ⟨hx, hb, hml, hown, hts⟩ (m_X5_append l G cA qW zW (40 : Int32) r_1 hr_1) (cw_X5_append hts wi_484 ⟨Nat.le_of_ble_eq_true rfl, Nat.le_of_ble_eq_true rfl⟩) hK hP hD hS [0, 1] [2, 3] rfl rfl rfl (by decide) rfl va_Pnil dj_nil (va_recv hK.1 hP (ci := 3) (q0 := 0) rfl rfl) rfl hl.1 rfl (Nat.le_of_ble_eq_true rfl) dX5_writeMultiple_3 ⟨Nat.zero_le _, Nat.zero_le _⟩ (fun H locs hP hD hS => ?_)
  refine lv_iload_n hx hb dX5_writeMultiple_6 rfl (lv_at hl 1 rfl) ?_
  refine lv_iconst (v := (-1)) hx hb dX5_writeMultiple_7 (by decide) ?_
  refine lv_icmp_ne (tgt := 20) hx hb dX5_writeMultiple_8 (by decide) (fun c_2 => ?_) (fun c_2 => ?_)
  · rw [if_pos (c_2)] at hf
    refine lv_iload_n hx hb dX5_writeMultiple_20 rfl (lv_at hl 1 rfl) ?_
    refine lv_iconst (v := 1) hx hb dX5_writeMultiple_21 (by decide) ?_
    refine lv_icmp_eq (tgt := 31) hx hb dX5_writeMultiple_22 (by decide) (fun c_3 => ?_) (fun c_3 => ?_)
    · rw [if_pos (c_3)] at hf
      exact b_X5_writeMultiple_31 qW   C0  r_1 H locs ls hP hD hS (lv_sub hl [0] rfl) hf
    · rw [if_neg (c_3)] at hf
      refine lv_aload_n hx hb dX5_writeMultiple_25 rfl (lv_at hl 0 rfl) ?_
      refine lv_iload_n hx hb dX5_writeMultiple_26 rfl (lv_at hl 1 rfl) ?_
      refine lv_i2l (v := a1.toInt64) hx hb dX5_writeMultiple_27 rfl ?_
      obtain ⟨r_4, hr_4, hf⟩ := obd hf
      refine cWvV (As := [.long a1.toInt64]) (rest := []) (W1 := ((wWr cA qW r_4))) ⟨hx, hb, hml, hown, hts⟩ (m_X5_writeNumber l G cA qW r_1 a1.toInt64 r_4 hr_4) (cw_X5_writeNumber hts wi_502 ⟨Nat.le_of_ble_eq_true rfl, Nat.le_of_ble_eq_true rfl⟩) hK hP hD hS [0, 1] [2, 3] rfl rfl rfl (by decide) rfl va_Pnil dj_nil (va_recv hK.1 hP (ci := 3) (q0 := 0) rfl rfl) rfl hl.1 rfl (Nat.le_of_ble_eq_true rfl) dX5_writeMultiple_28 ⟨Nat.zero_le _, Nat.zero_le _⟩ (fun H locs hP hD hS => ?_)
      exact b_X5_writeMultiple_31 qW   C0  r_4 H locs ls hP hD hS (lv_sub hl [0] rfl) hf
  · rw [if_neg (not_not_intro c_2)] at hf
    refine lv_aload_n hx hb dX5_writeMultiple_11 rfl (lv_at hl 0 rfl) ?_
    refine lv_bipush (v := (45 : Int32)) hx hb dX5_writeMultiple_12 (by decide) ?_
    obtain ⟨r_5, hr_5, hf⟩ := obd hf
    refine cWvV (As := [.int (45 : Int32)]) (rest := []) (W1 := ((wWr cA qW r_5))) ⟨hx, hb, hml, hown, hts⟩ (m_X5_append l G cA qW r_1 (45 : Int32) r_5 hr_5) (cw_X5_append hts wi_484 ⟨Nat.le_of_ble_eq_true rfl, Nat.le_of_ble_eq_true rfl⟩) hK hP hD hS [0, 1] [2, 3] rfl rfl rfl (by decide) rfl va_Pnil dj_nil (va_recv hK.1 hP (ci := 3) (q0 := 0) rfl rfl) rfl hl.1 rfl (Nat.le_of_ble_eq_true rfl) dX5_writeMultiple_14 ⟨Nat.zero_le _, Nat.zero_le _⟩ (fun H locs hP hD hS => ?_)
    refine lv_goto (tgt := 31) hx hb dX5_writeMultiple_17 (by decide) ?_
    exact b_X5_writeMultiple_31 qW   C0  r_5 H locs ls hP hD hS (lv_sub hl [0] rfl) hf

set_option maxRecDepth 100000 in
theorem m_X5_writeMultiple (l : Launch) (G : va_G) (cA : Nat → ClassId) (qW : Nat → Nat) (zW : WrS) (a1 : Int32) (res : WrS) (hf : f_X5_writeMultiple zW a1 = some res) : MWv l yX5_writeMultiple (.code yX5_writeMultiple cX5_writeMultiple 2 none :: wd) rm_X5_writeMultiple G cA [.ref (qW 0), .int a1] ((wWr cA qW zW)) [] ((wWr cA qW res)) := by
  refine Met.ofW (cc := cX5_writeMultiple) (maxL := 2) (ret := none) (by decide) rfl ?_
  intro p e s m args below meth c s₁ B hml hv
  obtain ⟨rfl, hK, hP, hD0, hR, hRA⟩ := hv
  have C0 : Amb p s m ([.ref (qW 0), .int a1] : List Value).toArray meth c cX5_writeMultiple RX5 2 none G cA (adr ((wWr cA qW zW))) [] := ⟨B.exec, B.bytes, B.returns, hml, findClass_of_methodNamed B.named, fun w h => atoms_spec (ws := (.code yX5_writeMultiple cX5_writeMultiple 2 none :: wd)) B.pre w (List.mem_cons_of_mem _ h), B.notSynchronized, hK, hR, hRA⟩
  have hl := lv_entry ([.ref (qW 0), .int a1]) (n := 2) (Nat.le_of_ble_eq_true rfl)
  rw [lg_entry_eq]
  generalize (lg_sl ([.ref (qW 0), .int a1]) ++ List.replicate (2 - (lg_sl ([.ref (qW 0), .int a1])).length) Slot.unset).toArray = ls at hl ⊢
  have hl : lv_has ls 2 [(0, .ref (qW 0)), (1, .int a1)] := hl
  exact b_X5_writeMultiple_0 (W9 := ((wWr cA qW zW))) qW   C0 zW a1 s.heap [] ls hP (adr.self hD0) va_S.rf hl hf
theorem cw_X5_writeMultiple {R : Room} {s : State} {args : Array Value} {own : String} {index : Nat} (ht : ∀ w ∈ wd, w.before args s = true) (hlink : Cond.methodLink own index yX5_writeMultiple ∈ wd) (hR : rm_X5_writeMultiple.frames + 1 ≤ R.frames ∧ 8 + (2 + 11) + rm_X5_writeMultiple.locals ≤ R.locals) : CallW R s args own RX5 index yX5_writeMultiple cX5_writeMultiple 2 none (.code yX5_writeMultiple cX5_writeMultiple 2 none :: wd) rm_X5_writeMultiple 0 0 1 := cwV9 1 ht wi_525 wi_524 wi_27 wi_59 hlink (by decide +kernel) rfl rfl hR
def rm_X5_writeExponent : Room := { frames := 2, cells := 0, slots := 0, locals := 57 }
def f_X5_writeExponent (zW : WrS) (a1 : Int32) : Option (WrS) := if a1 = (1 : Int32) then some zW else (f_X5_append zW (94 : Int32)).bind fun r_2 => (f_X5_writeNumber r_2 a1.toInt64).bind fun r_3 => some r_3
set_option maxHeartbeats 4000000 in
set_option maxRecDepth 100000 in
theorem b_X5_writeExponent_0 {p : Program} {l : Launch} {e : Env} {s : State} {m : MethodId} {args : Array Value} {below : List Frame} {meth : Method} {c : Code} {G : va_G} {cA : Nat → ClassId} {W9 : va_W} (qW : Nat → Nat) (C0 : Amb p s m args meth c cX5_writeExponent RX5 2 none G cA (adr W9) []) {res : WrS} : ∀ (zW : WrS) (a1 : Int32) (H : Heap) (locs : List Loc) (ls : Array Slot), va_P G vwCl ((wWr cA qW zW)) H → va_D (adr W9) ((wWr cA qW zW)) → va_S (adr W9) s.heap H locs → lv_has ls 2 [(0, .ref (qW 0)), (1, .int a1)] → f_X5_writeExponent zW a1 = some res → W p l e rm_X5_writeExponent s m args below meth c H locs 0 0 (MQ below (qWv G W9 ((wWr cA qW res))) args s 0 0 (adr W9)) (F0 m 0 ls []) := by
  obtain ⟨hx, hb, hr, hml, hown, hts, hlocks, hK, hR, hRA⟩ := id C0
  intro zW a1 H locs ls hP hD hS hl hf
  unfold f_X5_writeExponent at hf
  refine lv_iload_n hx hb dX5_writeExponent_0 rfl (lv_at hl 1 rfl) ?_
  refine lv_iconst (v := 1) hx hb dX5_writeExponent_1 (by decide) ?_
  refine lv_icmp_eq (tgt := 17) hx hb dX5_writeExponent_2 (by decide) (fun c_1 => ?_) (fun c_1 => ?_)
  · rw [if_pos (c_1)] at hf
    cases hf
    exact W.vret hx hb hr (fun t ht hW => ⟨⟨(), rfl, trivial, toT ht hP⟩, hS.F ht⟩) hS.2.2 dX5_writeExponent_17 hlocks
  · rw [if_neg (c_1)] at hf
    refine lv_aload_n hx hb dX5_writeExponent_5 rfl (lv_at hl 0 rfl) ?_
    refine lv_bipush (v := (94 : Int32)) hx hb dX5_writeExponent_6 (by decide) ?_
    obtain ⟨r_2, hr_2, hf⟩ := obd hf
    refine cWvV (As := [.int (94 : Int32)]) (rest := []) (W1 := ((wWr cA qW r_2))) ⟨hx, hb, hml, hown, hts⟩ (m_X5_append l G cA qW zW (94 : Int32) r_2 hr_2) (cw_X5_append hts wi_484 ⟨Nat.le_of_ble_eq_true rfl, Nat.le_of_ble_eq_true rfl⟩) hK hP hD hS [0, 1] [2, 3] rfl rfl rfl (by decide) rfl va_Pnil dj_nil (va_recv hK.1 hP (ci := 3) (q0 := 0) rfl rfl) rfl hl.1 rfl (Nat.le_of_ble_eq_true rfl) dX5_writeExponent_8 ⟨Nat.zero_le _, Nat.zero_le _⟩ (fun H locs hP hD hS => ?_)
    refine lv_aload_n hx hb dX5_writeExponent_11 rfl (lv_at hl 0 rfl) ?_
    refine lv_iload_n hx hb dX5_writeExponent_12 rfl (lv_at hl 1 rfl) ?_
    refine lv_i2l (v := a1.toInt64) hx hb dX5_writeExponent_13 rfl ?_
    obtain ⟨r_3, hr_3, hf⟩ := obd hf
    refine cWvV (As := [.long a1.toInt64]) (rest := []) (W1 := ((wWr cA qW r_3))) ⟨hx, hb, hml, hown, hts⟩ (m_X5_writeNumber l G cA qW r_2 a1.toInt64 r_3 hr_3) (cw_X5_writeNumber hts wi_502 ⟨Nat.le_of_ble_eq_true rfl, Nat.le_of_ble_eq_true rfl⟩) hK hP hD hS [0, 1] [2, 3] rfl rfl rfl (by decide) rfl va_Pnil dj_nil (va_recv hK.1 hP (ci := 3) (q0 := 0) rfl rfl) rfl hl.1 rfl (Nat.le_of_ble_eq_true rfl) dX5_writeExponent_14 ⟨Nat.zero_le _, Nat.zero_le _⟩ (fun H locs hP hD hS => ?_)
    cases hf
    exact W.vret hx hb hr (fun t ht hW => ⟨⟨(), rfl, trivial, toT ht hP⟩, hS.F ht⟩) hS.2.2 dX5_writeExponent_17 hlocks

set_option maxRecDepth 100000 in
theorem m_X5_writeExponent (l : Launch) (G : va_G) (cA : Nat → ClassId) (qW : Nat → Nat) (zW : WrS) (a1 : Int32) (res : WrS) (hf : f_X5_writeExponent zW a1 = some res) : MWv l yX5_writeExponent (.code yX5_writeExponent cX5_writeExponent 2 none :: wd) rm_X5_writeExponent G cA [.ref (qW 0), .int a1] ((wWr cA qW zW)) [] ((wWr cA qW res)) := by
  refine Met.ofW (cc := cX5_writeExponent) (maxL := 2) (ret := none) (by decide) rfl ?_
  intro p e s m args below meth c s₁ B hml hv
  obtain ⟨rfl, hK, hP, hD0, hR, hRA⟩ := hv
  have C0 : Amb p s m ([.ref (qW 0), .int a1] : List Value).toArray meth c cX5_writeExponent RX5 2 none G cA (adr ((wWr cA qW zW))) [] := ⟨B.exec, B.bytes, B.returns, hml, findClass_of_methodNamed B.named, fun w h => atoms_spec (ws := (.code yX5_writeExponent cX5_writeExponent 2 none :: wd)) B.pre w (List.mem_cons_of_mem _ h), B.notSynchronized, hK, hR, hRA⟩
  have hl := lv_entry ([.ref (qW 0), .int a1]) (n := 2) (Nat.le_of_ble_eq_true rfl)
  rw [lg_entry_eq]
  generalize (lg_sl ([.ref (qW 0), .int a1]) ++ List.replicate (2 - (lg_sl ([.ref (qW 0), .int a1])).length) Slot.unset).toArray = ls at hl ⊢
  have hl : lv_has ls 2 [(0, .ref (qW 0)), (1, .int a1)] := hl
  exact b_X5_writeExponent_0 (W9 := ((wWr cA qW zW))) qW   C0 zW a1 s.heap [] ls hP (adr.self hD0) va_S.rf hl hf
theorem cw_X5_writeExponent {R : Room} {s : State} {args : Array Value} {own : String} {index : Nat} (ht : ∀ w ∈ wd, w.before args s = true) (hlink : Cond.methodLink own index yX5_writeExponent ∈ wd) (hR : rm_X5_writeExponent.frames + 1 ≤ R.frames ∧ 8 + (2 + 11) + rm_X5_writeExponent.locals ≤ R.locals) : CallW R s args own RX5 index yX5_writeExponent cX5_writeExponent 2 none (.code yX5_writeExponent cX5_writeExponent 2 none :: wd) rm_X5_writeExponent 0 0 1 := cwV9 1 ht wi_516 wi_515 wi_25 wi_59 hlink (by decide +kernel) rfl rfl hR
def rm_X5_writeFunction : Room := { frames := 3, cells := 0, slots := 0, locals := 78 }
def f_X5_writeFunction (zW : WrS) (a1 : Int32) (a2 : Int32) : Option (WrS) := if a1 = 1 then (f_X5_append zW (108 : Int32)).bind fun r_2 => (f_X5_writeExponent r_2 a2).bind fun r_3 => some r_3 else if a1 = 2 then (f_X5_append zW (101 : Int32)).bind fun r_5 => (f_X5_writeMultiple r_5 a2).bind fun r_6 => some r_6 else if a1 = 3 then (f_X5_append zW (115 : Int32)).bind fun r_8 => (f_X5_writeMultiple r_8 a2).bind fun r_9 => some r_9 else if a1 = 4 then (f_X5_append zW (99 : Int32)).bind fun r_11 => (f_X5_writeMultiple r_11 a2).bind fun r_12 => some r_12 else some zW
set_option maxHeartbeats 4000000 in
set_option maxRecDepth 100000 in
theorem b_X5_writeFunction_0 {p : Program} {l : Launch} {e : Env} {s : State} {m : MethodId} {args : Array Value} {below : List Frame} {meth : Method} {c : Code} {G : va_G} {cA : Nat → ClassId} {W9 : va_W} (qW : Nat → Nat) (C0 : Amb p s m args meth c cX5_writeFunction RX5 3 none G cA (adr W9) []) {res : WrS} : ∀ (zW : WrS) (a1 : Int32) (a2 : Int32) (H : Heap) (locs : List Loc) (ls : Array Slot), va_P G vwCl ((wWr cA qW zW)) H → va_D (adr W9) ((wWr cA qW zW)) → va_S (adr W9) s.heap H locs → lv_has ls 3 [(0, .ref (qW 0)), (1, .int a1), (2, .int a2)] → f_X5_writeFunction zW a1 a2 = some res → W p l e rm_X5_writeFunction s m args below meth c H locs 0 0 (MQ below (qWv G W9 ((wWr cA qW res))) args s 0 0 (adr W9)) (F0 m 0 ls []) := by
  obtain ⟨hx, hb, hr, hml, hown, hts, hlocks, hK, hR, hRA⟩ := id C0
  intro zW a1 a2 H locs ls hP hD hS hl hf
  unfold f_X5_writeFunction at hf
  refine lv_iload_n hx hb dX5_writeFunction_0 rfl (lv_at hl 1 rfl) ?_
  by_cases c_1 : a1 = 1
  · rw [if_pos c_1] at hf
    rw [c_1]
    refine lv_tableIn (tgt := 32) (off := 31) hx hb dX5_writeFunction_1 (by decide) (by decide) (by decide) (by decide) ?_
    refine lv_aload_n hx hb dX5_writeFunction_32 rfl (lv_at hl 0 rfl) ?_
    refine lv_bipush (v := (108 : Int32)) hx hb dX5_writeFunction_33 (by decide) ?_
    obtain ⟨r_2, hr_2, hf⟩ := obd hf
    refine cWvV (As := [.int (108 : Int32)]) (rest := []) (W1 := ((wWr cA qW r_2))) ⟨hx, hb, hml, hown, hts⟩ (m_X5_append l G cA qW zW (108 : Int32) r_2 hr_2) (cw_X5_append hts wi_484 ⟨Nat.le_of_ble_eq_true rfl, Nat.le_of_ble_eq_true rfl⟩) hK hP hD hS [0, 1] [2, 3] rfl rfl rfl (by decide) rfl va_Pnil dj_nil (va_recv hK.1 hP (ci := 3) (q0 := 0) rfl rfl) rfl hl.1 rfl (Nat.le_of_ble_eq_true rfl) dX5_writeFunction_35 ⟨Nat.zero_le _, Nat.zero_le _⟩ (fun H locs hP hD hS => ?_)
    refine lv_aload_n hx hb dX5_writeFunction_38 rfl (lv_at hl 0 rfl) ?_
    refine lv_iload_n hx hb dX5_writeFunction_39 rfl (lv_at hl 2 rfl) ?_
    obtain ⟨r_3, hr_3, hf⟩ := obd hf
    refine cWvV (As := [.int a2]) (rest := []) (W1 := ((wWr cA qW r_3))) ⟨hx, hb, hml, hown, hts⟩ (m_X5_writeExponent l G cA qW r_2 a2 r_3 hr_3) (cw_X5_writeExponent hts wi_513 ⟨Nat.le_of_ble_eq_true rfl, Nat.le_of_ble_eq_true rfl⟩) hK hP hD hS [0, 1] [2, 3] rfl rfl rfl (by decide) rfl va_Pnil dj_nil (va_recv hK.1 hP (ci := 3) (q0 := 0) rfl rfl) rfl hl.1 rfl (Nat.le_of_ble_eq_true rfl) dX5_writeFunction_40 ⟨Nat.zero_le _, Nat.zero_le _⟩ (fun H locs hP hD hS => ?_)
    refine lv_goto (tgt := 88) hx hb dX5_writeFunction_43 (by decide) ?_
    cases hf
    exact W.vret hx hb hr (fun t ht hW => ⟨⟨(), rfl, trivial, toT ht hP⟩, hS.F ht⟩) hS.2.2 dX5_writeFunction_88 hlocks
  · rw [if_neg c_1] at hf
    by_cases c_4 : a1 = 2
    · rw [if_pos c_4] at hf
      rw [c_4]
      refine lv_tableIn (tgt := 46) (off := 45) hx hb dX5_writeFunction_1 (by decide) (by decide) (by decide) (by decide) ?_
      refine lv_aload_n hx hb dX5_writeFunction_46 rfl (lv_at hl 0 rfl) ?_
      refine lv_bipush (v := (101 : Int32)) hx hb dX5_writeFunction_47 (by decide) ?_
      obtain ⟨r_5, hr_5, hf⟩ := obd hf
      refine cWvV (As := [.int (101 : Int32)]) (rest := []) (W1 := ((wWr cA qW r_5))) ⟨hx, hb, hml, hown, hts⟩ (m_X5_append l G cA qW zW (101 : Int32) r_5 hr_5) (cw_X5_append hts wi_484 ⟨Nat.le_of_ble_eq_true rfl, Nat.le_of_ble_eq_true rfl⟩) hK hP hD hS [0, 1] [2, 3] rfl rfl rfl (by decide) rfl va_Pnil dj_nil (va_recv hK.1 hP (ci := 3) (q0 := 0) rfl rfl) rfl hl.1 rfl (Nat.le_of_ble_eq_true rfl) dX5_writeFunction_49 ⟨Nat.zero_le _, Nat.zero_le _⟩ (fun H locs hP hD hS => ?_)
      refine lv_aload_n hx hb dX5_writeFunction_52 rfl (lv_at hl 0 rfl) ?_
      refine lv_iload_n hx hb dX5_writeFunction_53 rfl (lv_at hl 2 rfl) ?_
      obtain ⟨r_6, hr_6, hf⟩ := obd hf
      refine cWvV (As := [.int a2]) (rest := []) (W1 := ((wWr cA qW r_6))) ⟨hx, hb, hml, hown, hts⟩ (m_X5_writeMultiple l G cA qW r_5 a2 r_6 hr_6) (cw_X5_writeMultiple hts wi_522 ⟨Nat.le_of_ble_eq_true rfl, Nat.le_of_ble_eq_true rfl⟩) hK hP hD hS [0, 1] [2, 3] rfl rfl rfl (by decide) rfl va_Pnil dj_nil (va_recv hK.1 hP (ci := 3) (q0 := 0) rfl rfl) rfl hl.1 rfl (Nat.le_of_ble_eq_true rfl) dX5_writeFunction_54 ⟨Nat.zero_le _, Nat.zero_le _⟩ (fun H locs hP hD hS => ?_)
      refine lv_goto (tgt := 88) hx hb dX5_writeFunction_57 (by decide) ?_
      cases hf
      exact W.vret hx hb hr (fun t ht hW => ⟨⟨(), rfl, trivial, toT ht hP⟩, hS.F ht⟩) hS.2.2 dX5_writeFunction_88 hlocks
    · rw [if_neg c_4] at hf
      by_cases c_7 : a1 = 3
      · rw [if_pos c_7] at hf
        rw [c_7]
        refine lv_tableIn (tgt := 60) (off := 59) hx hb dX5_writeFunction_1 (by decide) (by decide) (by decide) (by decide) ?_
        refine lv_aload_n hx hb dX5_writeFunction_60 rfl (lv_at hl 0 rfl) ?_
        refine lv_bipush (v := (115 : Int32)) hx hb dX5_writeFunction_61 (by decide) ?_
        obtain ⟨r_8, hr_8, hf⟩ := obd hf
        refine cWvV (As := [.int (115 : Int32)]) (rest := []) (W1 := ((wWr cA qW r_8))) ⟨hx, hb, hml, hown, hts⟩ (m_X5_append l G cA qW zW (115 : Int32) r_8 hr_8) (cw_X5_append hts wi_484 ⟨Nat.le_of_ble_eq_true rfl, Nat.le_of_ble_eq_true rfl⟩) hK hP hD hS [0, 1] [2, 3] rfl rfl rfl (by decide) rfl va_Pnil dj_nil (va_recv hK.1 hP (ci := 3) (q0 := 0) rfl rfl) rfl hl.1 rfl (Nat.le_of_ble_eq_true rfl) dX5_writeFunction_63 ⟨Nat.zero_le _, Nat.zero_le _⟩ (fun H locs hP hD hS => ?_)
        refine lv_aload_n hx hb dX5_writeFunction_66 rfl (lv_at hl 0 rfl) ?_
        refine lv_iload_n hx hb dX5_writeFunction_67 rfl (lv_at hl 2 rfl) ?_
        obtain ⟨r_9, hr_9, hf⟩ := obd hf
        refine cWvV (As := [.int a2]) (rest := []) (W1 := ((wWr cA qW r_9))) ⟨hx, hb, hml, hown, hts⟩ (m_X5_writeMultiple l G cA qW r_8 a2 r_9 hr_9) (cw_X5_writeMultiple hts wi_522 ⟨Nat.le_of_ble_eq_true rfl, Nat.le_of_ble_eq_true rfl⟩) hK hP hD hS [0, 1] [2, 3] rfl rfl rfl (by decide) rfl va_Pnil dj_nil (va_recv hK.1 hP (ci := 3) (q0 := 0) rfl rfl) rfl hl.1 rfl (Nat.le_of_ble_eq_true rfl) dX5_writeFunction_68 ⟨Nat.zero_le _, Nat.zero_le _⟩ (fun H locs hP hD hS => ?_)
        refine lv_goto (tgt := 88) hx hb dX5_writeFunction_71 (by decide) ?_
        cases hf
        exact W.vret hx hb hr (fun t ht hW => ⟨⟨(), rfl, trivial, toT ht hP⟩, hS.F ht⟩) hS.2.2 dX5_writeFunction_88 hlocks
      · rw [if_neg c_7] at hf
        by_cases c_10 : a1 = 4
        · rw [if_pos c_10] at hf
          rw [c_10]
          refine lv_tableIn (tgt := 74) (off := 73) hx hb dX5_writeFunction_1 (by decide) (by decide) (by decide) (by decide) ?_
          refine lv_aload_n hx hb dX5_writeFunction_74 rfl (lv_at hl 0 rfl) ?_
          refine lv_bipush (v := (99 : Int32)) hx hb dX5_writeFunction_75 (by decide) ?_
          obtain ⟨r_11, hr_11, hf⟩ := obd hf
          refine cWvV (As := [.int (99 : Int32)]) (rest := []) (W1 := ((wWr cA qW r_11))) ⟨hx, hb, hml, hown, hts⟩ (m_X5_append l G cA qW zW (99 : Int32) r_11 hr_11) (cw_X5_append hts wi_484 ⟨Nat.le_of_ble_eq_true rfl, Nat.le_of_ble_eq_true rfl⟩) hK hP hD hS [0, 1] [2, 3] rfl rfl rfl (by decide) rfl va_Pnil dj_nil (va_recv hK.1 hP (ci := 3) (q0 := 0) rfl rfl) rfl hl.1 rfl (Nat.le_of_ble_eq_true rfl) dX5_writeFunction_77 ⟨Nat.zero_le _, Nat.zero_le _⟩ (fun H locs hP hD hS => ?_)
          refine lv_aload_n hx hb dX5_writeFunction_80 rfl (lv_at hl 0 rfl) ?_
          refine lv_iload_n hx hb dX5_writeFunction_81 rfl (lv_at hl 2 rfl) ?_
          obtain ⟨r_12, hr_12, hf⟩ := obd hf
          refine cWvV (As := [.int a2]) (rest := []) (W1 := ((wWr cA qW r_12))) ⟨hx, hb, hml, hown, hts⟩ (m_X5_writeMultiple l G cA qW r_11 a2 r_12 hr_12) (cw_X5_writeMultiple hts wi_522 ⟨Nat.le_of_ble_eq_true rfl, Nat.le_of_ble_eq_true rfl⟩) hK hP hD hS [0, 1] [2, 3] rfl rfl rfl (by decide) rfl va_Pnil dj_nil (va_recv hK.1 hP (ci := 3) (q0 := 0) rfl rfl) rfl hl.1 rfl (Nat.le_of_ble_eq_true rfl) dX5_writeFunction_82 ⟨Nat.zero_le _, Nat.zero_le _⟩ (fun H locs hP hD hS => ?_)
          refine lv_goto (tgt := 88) hx hb dX5_writeFunction_85 (by decide) ?_
          cases hf
          exact W.vret hx hb hr (fun t ht hW => ⟨⟨(), rfl, trivial, toT ht hP⟩, hS.F ht⟩) hS.2.2 dX5_writeFunction_88 hlocks
        · rw [if_neg c_10] at hf
          refine lv_tableOut (tgt := 88) hx hb dX5_writeFunction_1 (by have h0 := lv_neT (a := 1) c_1 (by decide); have h1 := lv_neT (a := 2) c_4 (by decide); have h2 := lv_neT (a := 3) c_7 (by decide); have h3 := lv_neT (a := 4) c_10 (by decide); omega) (by decide) ?_
          cases hf
          exact W.vret hx hb hr (fun t ht hW => ⟨⟨(), rfl, trivial, toT ht hP⟩, hS.F ht⟩) hS.2.2 dX5_writeFunction_88 hlocks

set_option maxRecDepth 100000 in
theorem m_X5_writeFunction (l : Launch) (G : va_G) (cA : Nat → ClassId) (qW : Nat → Nat) (zW : WrS) (a1 : Int32) (a2 : Int32) (res : WrS) (hf : f_X5_writeFunction zW a1 a2 = some res) : MWv l yX5_writeFunction (.code yX5_writeFunction cX5_writeFunction 3 none :: wd) rm_X5_writeFunction G cA [.ref (qW 0), .int a1, .int a2] ((wWr cA qW zW)) [] ((wWr cA qW res)) := by
  refine Met.ofW (cc := cX5_writeFunction) (maxL := 3) (ret := none) (by decide) rfl ?_
  intro p e s m args below meth c s₁ B hml hv
  obtain ⟨rfl, hK, hP, hD0, hR, hRA⟩ := hv
  have C0 : Amb p s m ([.ref (qW 0), .int a1, .int a2] : List Value).toArray meth c cX5_writeFunction RX5 3 none G cA (adr ((wWr cA qW zW))) [] := ⟨B.exec, B.bytes, B.returns, hml, findClass_of_methodNamed B.named, fun w h => atoms_spec (ws := (.code yX5_writeFunction cX5_writeFunction 3 none :: wd)) B.pre w (List.mem_cons_of_mem _ h), B.notSynchronized, hK, hR, hRA⟩
  have hl := lv_entry ([.ref (qW 0), .int a1, .int a2]) (n := 3) (Nat.le_of_ble_eq_true rfl)
  rw [lg_entry_eq]
  generalize (lg_sl ([.ref (qW 0), .int a1, .int a2]) ++ List.replicate (3 - (lg_sl ([.ref (qW 0), .int a1, .int a2])).length) Slot.unset).toArray = ls at hl ⊢
  have hl : lv_has ls 3 [(0, .ref (qW 0)), (1, .int a1), (2, .int a2)] := hl
  exact b_X5_writeFunction_0 (W9 := ((wWr cA qW zW))) qW   C0 zW a1 a2 s.heap [] ls hP (adr.self hD0) va_S.rf hl hf
theorem cw_X5_writeFunction {R : Room} {s : State} {args : Array Value} {own : String} {index : Nat} (ht : ∀ w ∈ wd, w.before args s = true) (hlink : Cond.methodLink own index yX5_writeFunction ∈ wd) (hR : rm_X5_writeFunction.frames + 1 ≤ R.frames ∧ 8 + (3 + 11) + rm_X5_writeFunction.locals ≤ R.locals) : CallW R s args own RX5 index yX5_writeFunction cX5_writeFunction 3 none (.code yX5_writeFunction cX5_writeFunction 3 none :: wd) rm_X5_writeFunction 0 0 2 := cwV9 2 ht wi_521 wi_520 wi_26 wi_59 hlink (by decide +kernel) rfl rfl hR
def rm_X5_writePower : Room := { frames := 3, cells := 0, slots := 0, locals := 78 }
def f_X5_writePower (zW : WrS) (a1 : Int32) : Option (WrS) := if a1 = 0 then some zW else (f_X5_append zW (120 : Int32)).bind fun r_2 => (f_X5_writeExponent r_2 a1).bind fun r_3 => some r_3
set_option maxHeartbeats 4000000 in
set_option maxRecDepth 100000 in
theorem b_X5_writePower_0 {p : Program} {l : Launch} {e : Env} {s : State} {m : MethodId} {args : Array Value} {below : List Frame} {meth : Method} {c : Code} {G : va_G} {cA : Nat → ClassId} {W9 : va_W} (qW : Nat → Nat) (C0 : Amb p s m args meth c cX5_writePower RX5 2 none G cA (adr W9) []) {res : WrS} : ∀ (zW : WrS) (a1 : Int32) (H : Heap) (locs : List Loc) (ls : Array Slot), va_P G vwCl ((wWr cA qW zW)) H → va_D (adr W9) ((wWr cA qW zW)) → va_S (adr W9) s.heap H locs → lv_has ls 2 [(0, .ref (qW 0)), (1, .int a1)] → f_X5_writePower zW a1 = some res → W p l e rm_X5_writePower s m args below meth c H locs 0 0 (MQ below (qWv G W9 ((wWr cA qW res))) args s 0 0 (adr W9)) (F0 m 0 ls []) := by
  obtain ⟨hx, hb, hr, hml, hown, hts, hlocks, hK, hR, hRA⟩ := id C0
  intro zW a1 H locs ls hP hD hS hl hf
  unfold f_X5_writePower at hf
  refine lv_iload_n hx hb dX5_writePower_0 rfl (lv_at hl 1 rfl) ?_
  refine lv_if_eq (tgt := 15) hx hb dX5_writePower_1 (by decide) (fun c_1 => ?_) (fun c_1 => ?_)
  · rw [if_pos (c_1)] at hf
    cases hf
    exact W.vret hx hb hr (fun t ht hW => ⟨⟨(), rfl, trivial, toT ht hP⟩, hS.F ht⟩) hS.2.2 dX5_writePower_15 hlocks
  · rw [if_neg (c_1)] at hf
    refine lv_aload_n hx hb dX5_writePower_4 rfl (lv_at hl 0 rfl) ?_
    refine lv_bipush (v := (120 : Int32)) hx hb dX5_writePower_5 (by decide) ?_
    obtain ⟨r_2, hr_2, hf⟩ := obd hf
    refine cWvV (As := [.int (120 : Int32)]) (rest := []) (W1 := ((wWr cA qW r_2))) ⟨hx, hb, hml, hown, hts⟩ (m_X5_append l G cA qW zW (120 : Int32) r_2 hr_2) (cw_X5_append hts wi_484 ⟨Nat.le_of_ble_eq_true rfl, Nat.le_of_ble_eq_true rfl⟩) hK hP hD hS [0, 1] [2, 3] rfl rfl rfl (by decide) rfl va_Pnil dj_nil (va_recv hK.1 hP (ci := 3) (q0 := 0) rfl rfl) rfl hl.1 rfl (Nat.le_of_ble_eq_true rfl) dX5_writePower_7 ⟨Nat.zero_le _, Nat.zero_le _⟩ (fun H locs hP hD hS => ?_)
    refine lv_aload_n hx hb dX5_writePower_10 rfl (lv_at hl 0 rfl) ?_
    refine lv_iload_n hx hb dX5_writePower_11 rfl (lv_at hl 1 rfl) ?_
    obtain ⟨r_3, hr_3, hf⟩ := obd hf
    refine cWvV (As := [.int a1]) (rest := []) (W1 := ((wWr cA qW r_3))) ⟨hx, hb, hml, hown, hts⟩ (m_X5_writeExponent l G cA qW r_2 a1 r_3 hr_3) (cw_X5_writeExponent hts wi_513 ⟨Nat.le_of_ble_eq_true rfl, Nat.le_of_ble_eq_true rfl⟩) hK hP hD hS [0, 1] [2, 3] rfl rfl rfl (by decide) rfl va_Pnil dj_nil (va_recv hK.1 hP (ci := 3) (q0 := 0) rfl rfl) rfl hl.1 rfl (Nat.le_of_ble_eq_true rfl) dX5_writePower_12 ⟨Nat.zero_le _, Nat.zero_le _⟩ (fun H locs hP hD hS => ?_)
    cases hf
    exact W.vret hx hb hr (fun t ht hW => ⟨⟨(), rfl, trivial, toT ht hP⟩, hS.F ht⟩) hS.2.2 dX5_writePower_15 hlocks

set_option maxRecDepth 100000 in
theorem m_X5_writePower (l : Launch) (G : va_G) (cA : Nat → ClassId) (qW : Nat → Nat) (zW : WrS) (a1 : Int32) (res : WrS) (hf : f_X5_writePower zW a1 = some res) : MWv l yX5_writePower (.code yX5_writePower cX5_writePower 2 none :: wd) rm_X5_writePower G cA [.ref (qW 0), .int a1] ((wWr cA qW zW)) [] ((wWr cA qW res)) := by
  refine Met.ofW (cc := cX5_writePower) (maxL := 2) (ret := none) (by decide) rfl ?_
  intro p e s m args below meth c s₁ B hml hv
  obtain ⟨rfl, hK, hP, hD0, hR, hRA⟩ := hv
  have C0 : Amb p s m ([.ref (qW 0), .int a1] : List Value).toArray meth c cX5_writePower RX5 2 none G cA (adr ((wWr cA qW zW))) [] := ⟨B.exec, B.bytes, B.returns, hml, findClass_of_methodNamed B.named, fun w h => atoms_spec (ws := (.code yX5_writePower cX5_writePower 2 none :: wd)) B.pre w (List.mem_cons_of_mem _ h), B.notSynchronized, hK, hR, hRA⟩
  have hl := lv_entry ([.ref (qW 0), .int a1]) (n := 2) (Nat.le_of_ble_eq_true rfl)
  rw [lg_entry_eq]
  generalize (lg_sl ([.ref (qW 0), .int a1]) ++ List.replicate (2 - (lg_sl ([.ref (qW 0), .int a1])).length) Slot.unset).toArray = ls at hl ⊢
  have hl : lv_has ls 2 [(0, .ref (qW 0)), (1, .int a1)] := hl
  exact b_X5_writePower_0 (W9 := ((wWr cA qW zW))) qW   C0 zW a1 s.heap [] ls hP (adr.self hD0) va_S.rf hl hf
theorem cw_X5_writePower {R : Room} {s : State} {args : Array Value} {own : String} {index : Nat} (ht : ∀ w ∈ wd, w.before args s = true) (hlink : Cond.methodLink own index yX5_writePower ∈ wd) (hR : rm_X5_writePower.frames + 1 ≤ R.frames ∧ 8 + (2 + 11) + rm_X5_writePower.locals ≤ R.locals) : CallW R s args own RX5 index yX5_writePower cX5_writePower 2 none (.code yX5_writePower cX5_writePower 2 none :: wd) rm_X5_writePower 0 0 1 := cwV9 1 ht wi_512 wi_511 wi_24 wi_59 hlink (by decide +kernel) rfl rfl hR
def rm_X5_writeCoefficient : Room := { frames := 2, cells := 0, slots := 0, locals := 57 }
def f_X5_writeCoefficient_22 (zW : WrS) (x3 : Int64) : Option (WrS) := if x3 = (1 : Int64) then some zW else (f_X5_append zW (47 : Int32)).bind fun r_2 => (f_X5_writeNumber r_2 x3).bind fun r_3 => some r_3
set_option maxHeartbeats 4000000 in
set_option maxRecDepth 100000 in
theorem b_X5_writeCoefficient_22 {p : Program} {l : Launch} {e : Env} {s : State} {m : MethodId} {args : Array Value} {below : List Frame} {meth : Method} {c : Code} {G : va_G} {cA : Nat → ClassId} {W9 : va_W} (qW : Nat → Nat) (C0 : Amb p s m args meth c cX5_writeCoefficient RX5 6 none G cA (adr W9) []) {res : WrS} : ∀ (zW : WrS) (x3 : Int64) (H : Heap) (locs : List Loc) (ls : Array Slot), va_P G vwCl ((wWr cA qW zW)) H → va_D (adr W9) ((wWr cA qW zW)) → va_S (adr W9) s.heap H locs → lv_has ls 6 [(0, .ref (qW 0)), (3, .long x3)] → f_X5_writeCoefficient_22 zW x3 = some res → W p l e rm_X5_writeCoefficient s m args below meth c H locs 0 0 (MQ below (qWv G W9 ((wWr cA qW res))) args s 0 0 (adr W9)) (F0 m 22 ls []) := by
  obtain ⟨hx, hb, hr, hml, hown, hts, hlocks, hK, hR, hRA⟩ := id C0
  intro zW x3 H locs ls hP hD hS hl hf
  unfold f_X5_writeCoefficient_22 at hf
  refine lv_lload_n hx hb dX5_writeCoefficient_22 rfl (lv_at hl 1 rfl) ?_
  refine lv_lconst (v := (1 : Int64)) hx hb dX5_writeCoefficient_23 (by decide) ?_
  refine W.lcmp hx hb dX5_writeCoefficient_24 ?_
  refine lv_if_eq (tgt := 39) hx hb dX5_writeCoefficient_25 (by decide) (fun c_1 => ?_) (fun c_1 => ?_)
  · rw [if_pos ((lg_cmp_eq _ _).mp c_1)] at hf
    cases hf
    exact W.vret hx hb hr (fun t ht hW => ⟨⟨(), rfl, trivial, toT ht hP⟩, hS.F ht⟩) hS.2.2 dX5_writeCoefficient_39 hlocks
  · rw [if_neg (fun h => c_1 ((lg_cmp_eq _ _).mpr h))] at hf
    refine lv_aload_n hx hb dX5_writeCoefficient_28 rfl (lv_at hl 0 rfl) ?_
    refine lv_bipush (v := (47 : Int32)) hx hb dX5_writeCoefficient_29 (by decide) ?_
    obtain ⟨r_2, hr_2, hf⟩ := obd hf
    refine cWvV (As := [.int (47 : Int32)]) (rest := []) (W1 := ((wWr cA qW r_2))) ⟨hx, hb, hml, hown, hts⟩ (m_X5_append l G cA qW zW (47 : Int32) r_2 hr_2) (cw_X5_append hts wi_484 ⟨Nat.le_of_ble_eq_true rfl, Nat.le_of_ble_eq_true rfl⟩) hK hP hD hS [0, 1] [2, 3] rfl rfl rfl (by decide) rfl va_Pnil dj_nil (va_recv hK.1 hP (ci := 3) (q0 := 0) rfl rfl) rfl hl.1 rfl (Nat.le_of_ble_eq_true rfl) dX5_writeCoefficient_31 ⟨Nat.zero_le _, Nat.zero_le _⟩ (fun H locs hP hD hS => ?_)
    refine lv_aload_n hx hb dX5_writeCoefficient_34 rfl (lv_at hl 0 rfl) ?_
    refine lv_lload_n hx hb dX5_writeCoefficient_35 rfl (lv_at hl 1 rfl) ?_
    obtain ⟨r_3, hr_3, hf⟩ := obd hf
    refine cWvV (As := [.long x3]) (rest := []) (W1 := ((wWr cA qW r_3))) ⟨hx, hb, hml, hown, hts⟩ (m_X5_writeNumber l G cA qW r_2 x3 r_3 hr_3) (cw_X5_writeNumber hts wi_502 ⟨Nat.le_of_ble_eq_true rfl, Nat.le_of_ble_eq_true rfl⟩) hK hP hD hS [0, 1] [2, 3] rfl rfl rfl (by decide) rfl va_Pnil dj_nil (va_recv hK.1 hP (ci := 3) (q0 := 0) rfl rfl) rfl hl.1 rfl (Nat.le_of_ble_eq_true rfl) dX5_writeCoefficient_36 ⟨Nat.zero_le _, Nat.zero_le _⟩ (fun H locs hP hD hS => ?_)
    cases hf
    exact W.vret hx hb hr (fun t ht hW => ⟨⟨(), rfl, trivial, toT ht hP⟩, hS.F ht⟩) hS.2.2 dX5_writeCoefficient_39 hlocks
def f_X5_writeCoefficient_17 (zW : WrS) (x1 : Int64) (x3 : Int64) : Option (WrS) := (f_X5_writeNumber zW x1).bind fun r_1 => f_X5_writeCoefficient_22  r_1 x3
set_option maxHeartbeats 4000000 in
set_option maxRecDepth 100000 in
theorem b_X5_writeCoefficient_17 {p : Program} {l : Launch} {e : Env} {s : State} {m : MethodId} {args : Array Value} {below : List Frame} {meth : Method} {c : Code} {G : va_G} {cA : Nat → ClassId} {W9 : va_W} (qW : Nat → Nat) (C0 : Amb p s m args meth c cX5_writeCoefficient RX5 6 none G cA (adr W9) []) {res : WrS} : ∀ (zW : WrS) (x1 : Int64) (x3 : Int64) (H : Heap) (locs : List Loc) (ls : Array Slot), va_P G vwCl ((wWr cA qW zW)) H → va_D (adr W9) ((wWr cA qW zW)) → va_S (adr W9) s.heap H locs → lv_has ls 6 [(0, .ref (qW 0)), (1, .long x1), (3, .long x3)] → f_X5_writeCoefficient_17 zW x1 x3 = some res → W p l e rm_X5_writeCoefficient s m args below meth c H locs 0 0 (MQ below (qWv G W9 ((wWr cA qW res))) args s 0 0 (adr W9)) (F0 m 17 ls []) := by
  obtain ⟨hx, hb, hr, hml, hown, hts, hlocks, hK, hR, hRA⟩ := id C0
  intro zW x1 x3 H locs ls hP hD hS hl hf
  unfold f_X5_writeCoefficient_17 at hf
  refine lv_aload_n hx hb dX5_writeCoefficient_17 rfl (lv_at hl 0 rfl) ?_
  refine lv_lload_n hx hb dX5_writeCoefficient_18 rfl (lv_at hl 1 rfl) ?_
  obtain ⟨r_1, hr_1, hf⟩ := obd hf
  refine cWvV (As := [.long x1]) (rest := []) (W1 := ((wWr cA qW r_1))) ⟨hx, hb, hml, hown, hts⟩ (m_X5_writeNumber l G cA qW zW x1 r_1 hr_1) (cw_X5_writeNumber hts wi_502 ⟨Nat.le_of_ble_eq_true rfl, Nat.le_of_ble_eq_true rfl⟩) hK hP hD hS [0, 1] [2, 3] rfl rfl rfl (by decide) rfl va_Pnil dj_nil (va_recv hK.1 hP (ci := 3) (q0 := 0) rfl rfl) rfl hl.1 rfl (Nat.le_of_ble_eq_true rfl) dX5_writeCoefficient_19 ⟨Nat.zero_le _, Nat.zero_le _⟩ (fun H locs hP hD hS => ?_)
  exact b_X5_writeCoefficient_22 qW   C0  r_1 x3 H locs ls hP hD hS (lv_sub hl [0, 2] rfl) hf
def f_X5_writeCoefficient (zW : WrS) (a1 : Int64) (a3 : Int64) (a5 : Int32) : Option (WrS) := if ¬ a5 = 0 then f_X5_writeCoefficient_17  zW a1 a3 else if ¬ a1 = (1 : Int64) then f_X5_writeCoefficient_17  zW a1 a3 else if a3 = (1 : Int64) then f_X5_writeCoefficient_22  zW a3 else f_X5_writeCoefficient_17  zW a1 a3
set_option maxHeartbeats 4000000 in
set_option maxRecDepth 100000 in
theorem b_X5_writeCoefficient_0 {p : Program} {l : Launch} {e : Env} {s : State} {m : MethodId} {args : Array Value} {below : List Frame} {meth : Method} {c : Code} {G : va_G} {cA : Nat → ClassId} {W9 : va_W} (qW : Nat → Nat) (C0 : Amb p s m args meth c cX5_writeCoefficient RX5 6 none G cA (adr W9) []) {res : WrS} : ∀ (zW : WrS) (a1 : Int64) (a3 : Int64) (a5 : Int32) (H : Heap) (locs : List Loc) (ls : Array Slot), va_P G vwCl ((wWr cA qW zW)) H → va_D (adr W9) ((wWr cA qW zW)) → va_S (adr W9) s.heap H locs → lv_has ls 6 [(0, .ref (qW 0)), (1, .long a1), (3, .long a3), (5, .int a5)] → f_X5_writeCoefficient zW a1 a3 a5 = some res → W p l e rm_X5_writeCoefficient s m args below meth c H locs 0 0 (MQ below (qWv G W9 ((wWr cA qW res))) args s 0 0 (adr W9)) (F0 m 0 ls []) := by
  obtain ⟨hx, hb, hr, hml, hown, hts, hlocks, hK, hR, hRA⟩ := id C0
  intro zW a1 a3 a5 H locs ls hP hD hS hl hf
  unfold f_X5_writeCoefficient at hf
  refine lv_iload hx hb dX5_writeCoefficient_0 (lv_at hl 3 rfl) ?_
  refine lv_if_ne (tgt := 17) hx hb dX5_writeCoefficient_2 (by decide) (fun c_1 => ?_) (fun c_1 => ?_)
  · rw [if_pos (c_1)] at hf
    exact b_X5_writeCoefficient_17 qW   C0  zW a1 a3 H locs ls hP hD hS (lv_sub hl [0, 1, 2] rfl) hf
  · rw [if_neg (not_not_intro c_1)] at hf
    refine lv_lload_n hx hb dX5_writeCoefficient_5 rfl (lv_at hl 1 rfl) ?_
    refine lv_lconst (v := (1 : Int64)) hx hb dX5_writeCoefficient_6 (by decide) ?_
    refine W.lcmp hx hb dX5_writeCoefficient_7 ?_
    refine lv_if_ne (tgt := 17) hx hb dX5_writeCoefficient_8 (by decide) (fun c_2 => ?_) (fun c_2 => ?_)
    · rw [if_pos (fun h => c_2 ((lg_cmp_eq _ _).mpr h))] at hf
      exact b_X5_writeCoefficient_17 qW   C0  zW a1 a3 H locs ls hP hD hS (lv_sub hl [0, 1, 2] rfl) hf
    · rw [if_neg (fun h => h ((lg_cmp_eq _ _).mp c_2))] at hf
      refine lv_lload_n hx hb dX5_writeCoefficient_11 rfl (lv_at hl 2 rfl) ?_
      refine lv_lconst (v := (1 : Int64)) hx hb dX5_writeCoefficient_12 (by decide) ?_
      refine W.lcmp hx hb dX5_writeCoefficient_13 ?_
      refine lv_if_eq (tgt := 22) hx hb dX5_writeCoefficient_14 (by decide) (fun c_3 => ?_) (fun c_3 => ?_)
      · rw [if_pos ((lg_cmp_eq _ _).mp c_3)] at hf
        exact b_X5_writeCoefficient_22 qW   C0  zW a3 H locs ls hP hD hS (lv_sub hl [0, 2] rfl) hf
      · rw [if_neg (fun h => c_3 ((lg_cmp_eq _ _).mpr h))] at hf
        exact b_X5_writeCoefficient_17 qW   C0  zW a1 a3 H locs ls hP hD hS (lv_sub hl [0, 1, 2] rfl) hf

set_option maxRecDepth 100000 in
theorem m_X5_writeCoefficient (l : Launch) (G : va_G) (cA : Nat → ClassId) (qW : Nat → Nat) (zW : WrS) (a1 : Int64) (a3 : Int64) (a5 : Int32) (res : WrS) (hf : f_X5_writeCoefficient zW a1 a3 a5 = some res) : MWv l yX5_writeCoefficient (.code yX5_writeCoefficient cX5_writeCoefficient 6 none :: wd) rm_X5_writeCoefficient G cA [.ref (qW 0), .long a1, .long a3, .int a5] ((wWr cA qW zW)) [] ((wWr cA qW res)) := by
  refine Met.ofW (cc := cX5_writeCoefficient) (maxL := 6) (ret := none) (by decide) rfl ?_
  intro p e s m args below meth c s₁ B hml hv
  obtain ⟨rfl, hK, hP, hD0, hR, hRA⟩ := hv
  have C0 : Amb p s m ([.ref (qW 0), .long a1, .long a3, .int a5] : List Value).toArray meth c cX5_writeCoefficient RX5 6 none G cA (adr ((wWr cA qW zW))) [] := ⟨B.exec, B.bytes, B.returns, hml, findClass_of_methodNamed B.named, fun w h => atoms_spec (ws := (.code yX5_writeCoefficient cX5_writeCoefficient 6 none :: wd)) B.pre w (List.mem_cons_of_mem _ h), B.notSynchronized, hK, hR, hRA⟩
  have hl := lv_entry ([.ref (qW 0), .long a1, .long a3, .int a5]) (n := 6) (Nat.le_of_ble_eq_true rfl)
  rw [lg_entry_eq]
  generalize (lg_sl ([.ref (qW 0), .long a1, .long a3, .int a5]) ++ List.replicate (6 - (lg_sl ([.ref (qW 0), .long a1, .long a3, .int a5])).length) Slot.unset).toArray = ls at hl ⊢
  have hl : lv_has ls 6 [(0, .ref (qW 0)), (1, .long a1), (3, .long a3), (5, .int a5)] := hl
  exact b_X5_writeCoefficient_0 (W9 := ((wWr cA qW zW))) qW   C0 zW a1 a3 a5 s.heap [] ls hP (adr.self hD0) va_S.rf hl hf
theorem cw_X5_writeCoefficient {R : Room} {s : State} {args : Array Value} {own : String} {index : Nat} (ht : ∀ w ∈ wd, w.before args s = true) (hlink : Cond.methodLink own index yX5_writeCoefficient ∈ wd) (hR : rm_X5_writeCoefficient.frames + 1 ≤ R.frames ∧ 8 + (6 + 11) + rm_X5_writeCoefficient.locals ≤ R.locals) : CallW R s args own RX5 index yX5_writeCoefficient cX5_writeCoefficient 6 none (.code yX5_writeCoefficient cX5_writeCoefficient 6 none :: wd) rm_X5_writeCoefficient 0 0 3 := cwV9 3 ht wi_501 wi_500 wi_22 wi_59 hlink (by decide +kernel) rfl rfl hR
def rm_X5_writeTerm : Room := { frames := 4, cells := 0, slots := 0, locals := 100 }
def f_X5_writeTerm_50 (nT : Nat) (zT : SumS) (zW : WrS) (x2 : Int32) (v0 : Int32) : Option (WrS) := (f_X4_topAt nT zT x2).bind fun r_1 => (f_X4_bottomAt nT zT x2).bind fun r_2 => (f_X5_writeCoefficient zW (mabs64 r_1) r_2 v0).bind fun r_3 => (f_X4_powerAt nT zT x2).bind fun r_4 => (f_X5_writePower r_3 r_4).bind fun r_5 => (f_X4_kindAt nT zT x2).bind fun r_6 => (f_X4_argumentAt nT zT x2).bind fun r_7 => (f_X5_writeFunction r_5 r_6 r_7).bind fun r_8 => some r_8
set_option maxHeartbeats 4000000 in
set_option maxRecDepth 100000 in
theorem b_X5_writeTerm_50 {p : Program} {l : Launch} {e : Env} {s : State} {m : MethodId} {args : Array Value} {below : List Frame} {meth : Method} {c : Code} {G : va_G} {cA : Nat → ClassId} {W9 : va_W} (qW : Nat → Nat) (qT : Nat → Nat) (nT : Nat) (zT : SumS) (C0 : Amb p s m args meth c cX5_writeTerm RX5 4 none G cA (adr W9) ((wSum cA qT nT zT))) {res : WrS} : ∀ (zW : WrS) (x2 : Int32) (v0 : Int32) (H : Heap) (locs : List Loc) (ls : Array Slot), va_P G vwCl ((wWr cA qW zW)) H → va_D (adr W9) ((wWr cA qW zW)) → va_S (adr W9) s.heap H locs → lv_has ls 4 [(0, .ref (qW 0)), (1, .ref (qT 0)), (2, .int x2)] → f_X5_writeTerm_50 nT zT zW x2 v0 = some res → W p l e rm_X5_writeTerm s m args below meth c H locs 0 0 (MQ below (qWv G W9 ((wWr cA qW res))) args s 0 0 (adr W9)) (F0 m 50 ls [.int v0]) := by
  obtain ⟨hx, hb, hr, hml, hown, hts, hlocks, hK, hR, hRA⟩ := id C0
  intro zW x2 v0 H locs ls hP hD hS hl hf
  unfold f_X5_writeTerm_50 at hf
  refine lv_istore_n (lv' := [(3, .int v0), (0, .ref (qW 0)), (1, .ref (qT 0)), (2, .int x2)]) hx hb dX5_writeTerm_50 rfl hl (by decide) rfl (fun ls hl => ?_)
  refine lv_aload_n hx hb dX5_writeTerm_51 rfl (lv_at hl 1 rfl) ?_
  refine lv_aload_n hx hb dX5_writeTerm_52 rfl (lv_at hl 2 rfl) ?_
  refine lv_iload_n hx hb dX5_writeTerm_53 rfl (lv_at hl 3 rfl) ?_
  obtain ⟨r_1, hr_1, hf⟩ := obd hf
  refine cRlV (As := [.int x2]) (rest := [.ref (qW 0)]) ⟨hx, hb, hml, hown, hts⟩ (m_X4_topAt l G cA qT nT zT x2 r_1 hr_1) (cw_X4_topAt hts wi_480 ⟨Nat.le_of_ble_eq_true rfl, Nat.le_of_ble_eq_true rfl⟩) hK (pk (roP hR hRA hS) [0, 1, 2, 3] rfl) (va_recv hK.1 (roP hR hRA hS) (ci := 2) (q0 := 0) rfl rfl) rfl hl.1 rfl (Nat.le_of_ble_eq_true rfl) dX5_writeTerm_54 ⟨Nat.zero_le _, Nat.zero_le _⟩ ?_
  refine k_abs64 hx hb (hml.trans hl.1.symm) hown hts wi_493 (Nat.le_of_ble_eq_true rfl) (Nat.le_of_ble_eq_true rfl) (Nat.zero_le _) (Nat.zero_le _) dX5_writeTerm_57 ?_
  refine lv_aload_n hx hb dX5_writeTerm_60 rfl (lv_at hl 2 rfl) ?_
  refine lv_iload_n hx hb dX5_writeTerm_61 rfl (lv_at hl 3 rfl) ?_
  obtain ⟨r_2, hr_2, hf⟩ := obd hf
  refine cRlV (As := [.int x2]) (rest := [.long (mabs64 r_1), .ref (qW 0)]) ⟨hx, hb, hml, hown, hts⟩ (m_X4_bottomAt l G cA qT nT zT x2 r_2 hr_2) (cw_X4_bottomAt hts wi_494 ⟨Nat.le_of_ble_eq_true rfl, Nat.le_of_ble_eq_true rfl⟩) hK (pk (roP hR hRA hS) [0, 1, 2, 3] rfl) (va_recv hK.1 (roP hR hRA hS) (ci := 2) (q0 := 0) rfl rfl) rfl hl.1 rfl (Nat.le_of_ble_eq_true rfl) dX5_writeTerm_62 ⟨Nat.zero_le _, Nat.zero_le _⟩ ?_
  refine lv_iload_n hx hb dX5_writeTerm_65 rfl (lv_at hl 0 rfl) ?_
  obtain ⟨r_3, hr_3, hf⟩ := obd hf
  refine cWvV (As := [.long (mabs64 r_1), .long r_2, .int v0]) (rest := []) (W1 := ((wWr cA qW r_3))) ⟨hx, hb, hml, hown, hts⟩ (m_X5_writeCoefficient l G cA qW zW (mabs64 r_1) r_2 v0 r_3 hr_3) (cw_X5_writeCoefficient hts wi_498 ⟨Nat.le_of_ble_eq_true rfl, Nat.le_of_ble_eq_true rfl⟩) hK hP hD hS [0, 1] [2, 3] rfl rfl rfl (by decide) rfl va_Pnil dj_nil (va_recv hK.1 hP (ci := 3) (q0 := 0) rfl rfl) rfl hl.1 rfl (Nat.le_of_ble_eq_true rfl) dX5_writeTerm_66 ⟨Nat.zero_le _, Nat.zero_le _⟩ (fun H locs hP hD hS => ?_)
  refine lv_aload_n hx hb dX5_writeTerm_69 rfl (lv_at hl 1 rfl) ?_
  refine lv_aload_n hx hb dX5_writeTerm_70 rfl (lv_at hl 2 rfl) ?_
  refine lv_iload_n hx hb dX5_writeTerm_71 rfl (lv_at hl 3 rfl) ?_
  obtain ⟨r_4, hr_4, hf⟩ := obd hf
  refine cRiV (As := [.int x2]) (rest := [.ref (qW 0)]) ⟨hx, hb, hml, hown, hts⟩ (m_X4_powerAt l G cA qT nT zT x2 r_4 hr_4) (cw_X4_powerAt hts wi_492 ⟨Nat.le_of_ble_eq_true rfl, Nat.le_of_ble_eq_true rfl⟩) hK (pk (roP hR hRA hS) [0, 1, 2, 3] rfl) (va_recv hK.1 (roP hR hRA hS) (ci := 2) (q0 := 0) rfl rfl) rfl hl.1 rfl (Nat.le_of_ble_eq_true rfl) dX5_writeTerm_72 ⟨Nat.zero_le _, Nat.zero_le _⟩ ?_
  obtain ⟨r_5, hr_5, hf⟩ := obd hf
  refine cWvV (As := [.int r_4]) (rest := []) (W1 := ((wWr cA qW r_5))) ⟨hx, hb, hml, hown, hts⟩ (m_X5_writePower l G cA qW r_3 r_4 r_5 hr_5) (cw_X5_writePower hts wi_509 ⟨Nat.le_of_ble_eq_true rfl, Nat.le_of_ble_eq_true rfl⟩) hK hP hD hS [0, 1] [2, 3] rfl rfl rfl (by decide) rfl va_Pnil dj_nil (va_recv hK.1 hP (ci := 3) (q0 := 0) rfl rfl) rfl hl.1 rfl (Nat.le_of_ble_eq_true rfl) dX5_writeTerm_75 ⟨Nat.zero_le _, Nat.zero_le _⟩ (fun H locs hP hD hS => ?_)
  refine lv_aload_n hx hb dX5_writeTerm_78 rfl (lv_at hl 1 rfl) ?_
  refine lv_aload_n hx hb dX5_writeTerm_79 rfl (lv_at hl 2 rfl) ?_
  refine lv_iload_n hx hb dX5_writeTerm_80 rfl (lv_at hl 3 rfl) ?_
  obtain ⟨r_6, hr_6, hf⟩ := obd hf
  refine cRiV (As := [.int x2]) (rest := [.ref (qW 0)]) ⟨hx, hb, hml, hown, hts⟩ (m_X4_kindAt l G cA qT nT zT x2 r_6 hr_6) (cw_X4_kindAt hts wi_488 ⟨Nat.le_of_ble_eq_true rfl, Nat.le_of_ble_eq_true rfl⟩) hK (pk (roP hR hRA hS) [0, 1, 2, 3] rfl) (va_recv hK.1 (roP hR hRA hS) (ci := 2) (q0 := 0) rfl rfl) rfl hl.1 rfl (Nat.le_of_ble_eq_true rfl) dX5_writeTerm_81 ⟨Nat.zero_le _, Nat.zero_le _⟩ ?_
  refine lv_aload_n hx hb dX5_writeTerm_84 rfl (lv_at hl 2 rfl) ?_
  refine lv_iload_n hx hb dX5_writeTerm_85 rfl (lv_at hl 3 rfl) ?_
  obtain ⟨r_7, hr_7, hf⟩ := obd hf
  refine cRiV (As := [.int x2]) (rest := [.int r_6, .ref (qW 0)]) ⟨hx, hb, hml, hown, hts⟩ (m_X4_argumentAt l G cA qT nT zT x2 r_7 hr_7) (cw_X4_argumentAt hts wi_517 ⟨Nat.le_of_ble_eq_true rfl, Nat.le_of_ble_eq_true rfl⟩) hK (pk (roP hR hRA hS) [0, 1, 2, 3] rfl) (va_recv hK.1 (roP hR hRA hS) (ci := 2) (q0 := 0) rfl rfl) rfl hl.1 rfl (Nat.le_of_ble_eq_true rfl) dX5_writeTerm_86 ⟨Nat.zero_le _, Nat.zero_le _⟩ ?_
  obtain ⟨r_8, hr_8, hf⟩ := obd hf
  refine cWvV (As := [.int r_6, .int r_7]) (rest := []) (W1 := ((wWr cA qW r_8))) ⟨hx, hb, hml, hown, hts⟩ (m_X5_writeFunction l G cA qW r_5 r_6 r_7 r_8 hr_8) (cw_X5_writeFunction hts wi_518 ⟨Nat.le_of_ble_eq_true rfl, Nat.le_of_ble_eq_true rfl⟩) hK hP hD hS [0, 1] [2, 3] rfl rfl rfl (by decide) rfl va_Pnil dj_nil (va_recv hK.1 hP (ci := 3) (q0 := 0) rfl rfl) rfl hl.1 rfl (Nat.le_of_ble_eq_true rfl) dX5_writeTerm_89 ⟨Nat.zero_le _, Nat.zero_le _⟩ (fun H locs hP hD hS => ?_)
  cases hf
  exact W.vret hx hb hr (fun t ht hW => ⟨⟨(), rfl, trivial, toT ht hP⟩, hS.F ht⟩) hS.2.2 dX5_writeTerm_92 hlocks
def f_X5_writeTerm_49 (nT : Nat) (zT : SumS) (zW : WrS) (x2 : Int32) : Option (WrS) := f_X5_writeTerm_50 nT zT zW x2 (0 : Int32)
set_option maxHeartbeats 4000000 in
set_option maxRecDepth 100000 in
theorem b_X5_writeTerm_49 {p : Program} {l : Launch} {e : Env} {s : State} {m : MethodId} {args : Array Value} {below : List Frame} {meth : Method} {c : Code} {G : va_G} {cA : Nat → ClassId} {W9 : va_W} (qW : Nat → Nat) (qT : Nat → Nat) (nT : Nat) (zT : SumS) (C0 : Amb p s m args meth c cX5_writeTerm RX5 4 none G cA (adr W9) ((wSum cA qT nT zT))) {res : WrS} : ∀ (zW : WrS) (x2 : Int32) (H : Heap) (locs : List Loc) (ls : Array Slot), va_P G vwCl ((wWr cA qW zW)) H → va_D (adr W9) ((wWr cA qW zW)) → va_S (adr W9) s.heap H locs → lv_has ls 4 [(0, .ref (qW 0)), (1, .ref (qT 0)), (2, .int x2)] → f_X5_writeTerm_49 nT zT zW x2 = some res → W p l e rm_X5_writeTerm s m args below meth c H locs 0 0 (MQ below (qWv G W9 ((wWr cA qW res))) args s 0 0 (adr W9)) (F0 m 49 ls []) := by
  obtain ⟨hx, hb, hr, hml, hown, hts, hlocks, hK, hR, hRA⟩ := id C0
  intro zW x2 H locs ls hP hD hS hl hf
  unfold f_X5_writeTerm_49 at hf
  refine lv_iconst (v := 0) hx hb dX5_writeTerm_49 (by decide) ?_
  exact b_X5_writeTerm_50 qW qT nT  zT C0  zW x2 (0 : Int32) H locs ls hP hD hS (lv_sub hl [0, 1, 2] rfl) hf
def f_X5_writeTerm_29 (nT : Nat) (zT : SumS) (zW : WrS) (x2 : Int32) : Option (WrS) := (f_X4_kindAt nT zT x2).bind fun r_1 => if ¬ r_1 = 0 then f_X5_writeTerm_49 nT zT zW x2 else (f_X4_powerAt nT zT x2).bind fun r_3 => if ¬ r_3 = 0 then f_X5_writeTerm_49 nT zT zW x2 else f_X5_writeTerm_50 nT zT zW x2 (1 : Int32)
set_option maxHeartbeats 4000000 in
set_option maxRecDepth 100000 in
theorem b_X5_writeTerm_29 {p : Program} {l : Launch} {e : Env} {s : State} {m : MethodId} {args : Array Value} {below : List Frame} {meth : Method} {c : Code} {G : va_G} {cA : Nat → ClassId} {W9 : va_W} (qW : Nat → Nat) (qT : Nat → Nat) (nT : Nat) (zT : SumS) (C0 : Amb p s m args meth c cX5_writeTerm RX5 4 none G cA (adr W9) ((wSum cA qT nT zT))) {res : WrS} : ∀ (zW : WrS) (x2 : Int32) (H : Heap) (locs : List Loc) (ls : Array Slot), va_P G vwCl ((wWr cA qW zW)) H → va_D (adr W9) ((wWr cA qW zW)) → va_S (adr W9) s.heap H locs → lv_has ls 4 [(0, .ref (qW 0)), (1, .ref (qT 0)), (2, .int x2)] → f_X5_writeTerm_29 nT zT zW x2 = some res → W p l e rm_X5_writeTerm s m args below meth c H locs 0 0 (MQ below (qWv G W9 ((wWr cA qW res))) args s 0 0 (adr W9)) (F0 m 29 ls []) := by
  obtain ⟨hx, hb, hr, hml, hown, hts, hlocks, hK, hR, hRA⟩ := id C0
  intro zW x2 H locs ls hP hD hS hl hf
  unfold f_X5_writeTerm_29 at hf
  refine lv_aload_n hx hb dX5_writeTerm_29 rfl (lv_at hl 1 rfl) ?_
  refine lv_iload_n hx hb dX5_writeTerm_30 rfl (lv_at hl 2 rfl) ?_
  obtain ⟨r_1, hr_1, hf⟩ := obd hf
  refine cRiV (As := [.int x2]) (rest := []) ⟨hx, hb, hml, hown, hts⟩ (m_X4_kindAt l G cA qT nT zT x2 r_1 hr_1) (cw_X4_kindAt hts wi_488 ⟨Nat.le_of_ble_eq_true rfl, Nat.le_of_ble_eq_true rfl⟩) hK (pk (roP hR hRA hS) [0, 1, 2, 3] rfl) (va_recv hK.1 (roP hR hRA hS) (ci := 2) (q0 := 0) rfl rfl) rfl hl.1 rfl (Nat.le_of_ble_eq_true rfl) dX5_writeTerm_31 ⟨Nat.zero_le _, Nat.zero_le _⟩ ?_
  refine lv_if_ne (tgt := 49) hx hb dX5_writeTerm_34 (by decide) (fun c_2 => ?_) (fun c_2 => ?_)
  · rw [if_pos (c_2)] at hf
    exact b_X5_writeTerm_49 qW qT nT  zT C0  zW x2 H locs ls hP hD hS (lv_sub hl [0, 1, 2] rfl) hf
  · rw [if_neg (not_not_intro c_2)] at hf
    refine lv_aload_n hx hb dX5_writeTerm_37 rfl (lv_at hl 1 rfl) ?_
    refine lv_iload_n hx hb dX5_writeTerm_38 rfl (lv_at hl 2 rfl) ?_
    obtain ⟨r_3, hr_3, hf⟩ := obd hf
    refine cRiV (As := [.int x2]) (rest := []) ⟨hx, hb, hml, hown, hts⟩ (m_X4_powerAt l G cA qT nT zT x2 r_3 hr_3) (cw_X4_powerAt hts wi_492 ⟨Nat.le_of_ble_eq_true rfl, Nat.le_of_ble_eq_true rfl⟩) hK (pk (roP hR hRA hS) [0, 1, 2, 3] rfl) (va_recv hK.1 (roP hR hRA hS) (ci := 2) (q0 := 0) rfl rfl) rfl hl.1 rfl (Nat.le_of_ble_eq_true rfl) dX5_writeTerm_39 ⟨Nat.zero_le _, Nat.zero_le _⟩ ?_
    refine lv_if_ne (tgt := 49) hx hb dX5_writeTerm_42 (by decide) (fun c_4 => ?_) (fun c_4 => ?_)
    · rw [if_pos (c_4)] at hf
      exact b_X5_writeTerm_49 qW qT nT  zT C0  zW x2 H locs ls hP hD hS (lv_sub hl [0, 1, 2] rfl) hf
    · rw [if_neg (not_not_intro c_4)] at hf
      refine lv_iconst (v := 1) hx hb dX5_writeTerm_45 (by decide) ?_
      refine lv_goto (tgt := 50) hx hb dX5_writeTerm_46 (by decide) ?_
      exact b_X5_writeTerm_50 qW qT nT  zT C0  zW x2 (1 : Int32) H locs ls hP hD hS (lv_sub hl [0, 1, 2] rfl) hf
def f_X5_writeTerm (nT : Nat) (zT : SumS) (zW : WrS) (a2 : Int32) : Option (WrS) := (f_X4_topAt nT zT a2).bind fun r_1 => if (0 : Int64) ≤ r_1 then if a2 ≤ 0 then f_X5_writeTerm_29 nT zT zW a2 else (f_X5_append zW (43 : Int32)).bind fun r_4 => f_X5_writeTerm_29 nT zT r_4 a2 else (f_X5_append zW (45 : Int32)).bind fun r_5 => f_X5_writeTerm_29 nT zT r_5 a2
set_option maxHeartbeats 4000000 in
set_option maxRecDepth 100000 in
theorem b_X5_writeTerm_0 {p : Program} {l : Launch} {e : Env} {s : State} {m : MethodId} {args : Array Value} {below : List Frame} {meth : Method} {c : Code} {G : va_G} {cA : Nat → ClassId} {W9 : va_W} (qW : Nat → Nat) (qT : Nat → Nat) (nT : Nat) (zT : SumS) (C0 : Amb p s m args meth c cX5_writeTerm RX5 4 none G cA (adr W9) ((wSum cA qT nT zT))) {res : WrS} : ∀ (zW : WrS) (a2 : Int32) (H : Heap) (locs : List Loc) (ls : Array Slot), va_P G vwCl ((wWr cA qW zW)) H → va_D (adr W9) ((wWr cA qW zW)) → va_S (adr W9) s.heap H locs → lv_has ls 4 [(0, .ref (qW 0)), (1, .ref (qT 0)), (2, .int a2)] → f_X5_writeTerm nT zT zW a2 = some res → W p l e rm_X5_writeTerm s m args below meth c H locs 0 0 (MQ below (qWv G W9 ((wWr cA qW res))) args s 0 0 (adr W9)) (F0 m 0 ls []) := by
  obtain ⟨hx, hb, hr, hml, hown, hts, hlocks, hK, hR, hRA⟩ := id C0
  intro zW a2 H locs ls hP hD hS hl hf
  unfold f_X5_writeTerm at hf
  refine lv_aload_n hx hb dX5_writeTerm_0 rfl (lv_at hl 1 rfl) ?_
  refine lv_iload_n hx hb dX5_writeTerm_1 rfl (lv_at hl 2 rfl) ?_
  obtain ⟨r_1, hr_1, hf⟩ := obd hf
  refine cRlV (As := [.int a2]) (rest := []) ⟨hx, hb, hml, hown, hts⟩ (m_X4_topAt l G cA qT nT zT a2 r_1 hr_1) (cw_X4_topAt hts wi_480 ⟨Nat.le_of_ble_eq_true rfl, Nat.le_of_ble_eq_true rfl⟩) hK (pk (roP hR hRA hS) [0, 1, 2, 3] rfl) (va_recv hK.1 (roP hR hRA hS) (ci := 2) (q0 := 0) rfl rfl) rfl hl.1 rfl (Nat.le_of_ble_eq_true rfl) dX5_writeTerm_2 ⟨Nat.zero_le _, Nat.zero_le _⟩ ?_
  refine lv_lconst (v := (0 : Int64)) hx hb dX5_writeTerm_5 (by decide) ?_
  refine W.lcmp hx hb dX5_writeTerm_6 ?_
  refine lv_if_ge (tgt := 19) hx hb dX5_writeTerm_7 (by decide) (fun c_2 => ?_) (fun c_2 => ?_)
  · rw [if_pos ((lg_cmp_ge _ _).mp c_2)] at hf
    refine lv_iload_n hx hb dX5_writeTerm_19 rfl (lv_at hl 2 rfl) ?_
    refine lv_if_le (tgt := 29) hx hb dX5_writeTerm_20 (by decide) (fun c_3 => ?_) (fun c_3 => ?_)
    · rw [if_pos (c_3)] at hf
      exact b_X5_writeTerm_29 qW qT nT  zT C0  zW a2 H locs ls hP hD hS (lv_sub hl [0, 1, 2] rfl) hf
    · rw [if_neg (c_3)] at hf
      refine lv_aload_n hx hb dX5_writeTerm_23 rfl (lv_at hl 0 rfl) ?_
      refine lv_bipush (v := (43 : Int32)) hx hb dX5_writeTerm_24 (by decide) ?_
      obtain ⟨r_4, hr_4, hf⟩ := obd hf
      refine cWvV (As := [.int (43 : Int32)]) (rest := []) (W1 := ((wWr cA qW r_4))) ⟨hx, hb, hml, hown, hts⟩ (m_X5_append l G cA qW zW (43 : Int32) r_4 hr_4) (cw_X5_append hts wi_484 ⟨Nat.le_of_ble_eq_true rfl, Nat.le_of_ble_eq_true rfl⟩) hK hP hD hS [0, 1] [2, 3] rfl rfl rfl (by decide) rfl va_Pnil dj_nil (va_recv hK.1 hP (ci := 3) (q0 := 0) rfl rfl) rfl hl.1 rfl (Nat.le_of_ble_eq_true rfl) dX5_writeTerm_26 ⟨Nat.zero_le _, Nat.zero_le _⟩ (fun H locs hP hD hS => ?_)
      exact b_X5_writeTerm_29 qW qT nT  zT C0  r_4 a2 H locs ls hP hD hS (lv_sub hl [0, 1, 2] rfl) hf
  · rw [if_neg (fun h => c_2 ((lg_cmp_ge _ _).mpr h))] at hf
    refine lv_aload_n hx hb dX5_writeTerm_10 rfl (lv_at hl 0 rfl) ?_
    refine lv_bipush (v := (45 : Int32)) hx hb dX5_writeTerm_11 (by decide) ?_
    obtain ⟨r_5, hr_5, hf⟩ := obd hf
    refine cWvV (As := [.int (45 : Int32)]) (rest := []) (W1 := ((wWr cA qW r_5))) ⟨hx, hb, hml, hown, hts⟩ (m_X5_append l G cA qW zW (45 : Int32) r_5 hr_5) (cw_X5_append hts wi_484 ⟨Nat.le_of_ble_eq_true rfl, Nat.le_of_ble_eq_true rfl⟩) hK hP hD hS [0, 1] [2, 3] rfl rfl rfl (by decide) rfl va_Pnil dj_nil (va_recv hK.1 hP (ci := 3) (q0 := 0) rfl rfl) rfl hl.1 rfl (Nat.le_of_ble_eq_true rfl) dX5_writeTerm_13 ⟨Nat.zero_le _, Nat.zero_le _⟩ (fun H locs hP hD hS => ?_)
    refine lv_goto (tgt := 29) hx hb dX5_writeTerm_16 (by decide) ?_
    exact b_X5_writeTerm_29 qW qT nT  zT C0  r_5 a2 H locs ls hP hD hS (lv_sub hl [0, 1, 2] rfl) hf

set_option maxRecDepth 100000 in
theorem m_X5_writeTerm (l : Launch) (G : va_G) (cA : Nat → ClassId) (qW : Nat → Nat) (qT : Nat → Nat) (nT : Nat) (zT : SumS) (zW : WrS) (a2 : Int32) (res : WrS) (hf : f_X5_writeTerm nT zT zW a2 = some res) : MWv l yX5_writeTerm (.code yX5_writeTerm cX5_writeTerm 4 none :: wd) rm_X5_writeTerm G cA [.ref (qW 0), .ref (qT 0), .int a2] ((wWr cA qW zW)) ((wSum cA qT nT zT)) ((wWr cA qW res)) := by
  refine Met.ofW (cc := cX5_writeTerm) (maxL := 4) (ret := none) (by decide) rfl ?_
  intro p e s m args below meth c s₁ B hml hv
  obtain ⟨rfl, hK, hP, hD0, hR, hRA⟩ := hv
  have C0 : Amb p s m ([.ref (qW 0), .ref (qT 0), .int a2] : List Value).toArray meth c cX5_writeTerm RX5 4 none G cA (adr ((wWr cA qW zW))) ((wSum cA qT nT zT)) := ⟨B.exec, B.bytes, B.returns, hml, findClass_of_methodNamed B.named, fun w h => atoms_spec (ws := (.code yX5_writeTerm cX5_writeTerm 4 none :: wd)) B.pre w (List.mem_cons_of_mem _ h), B.notSynchronized, hK, hR, hRA⟩
  have hl := lv_entry ([.ref (qW 0), .ref (qT 0), .int a2]) (n := 4) (Nat.le_of_ble_eq_true rfl)
  rw [lg_entry_eq]
  generalize (lg_sl ([.ref (qW 0), .ref (qT 0), .int a2]) ++ List.replicate (4 - (lg_sl ([.ref (qW 0), .ref (qT 0), .int a2])).length) Slot.unset).toArray = ls at hl ⊢
  have hl : lv_has ls 4 [(0, .ref (qW 0)), (1, .ref (qT 0)), (2, .int a2)] := hl
  exact b_X5_writeTerm_0 (W9 := ((wWr cA qW zW))) qW qT nT  zT C0 zW a2 s.heap [] ls hP (adr.self hD0) va_S.rf hl hf
theorem cw_X5_writeTerm {R : Room} {s : State} {args : Array Value} {own : String} {index : Nat} (ht : ∀ w ∈ wd, w.before args s = true) (hlink : Cond.methodLink own index yX5_writeTerm ∈ wd) (hR : rm_X5_writeTerm.frames + 1 ≤ R.frames ∧ 8 + (4 + 11) + rm_X5_writeTerm.locals ≤ R.locals) : CallW R s args own RX5 index yX5_writeTerm cX5_writeTerm 4 none (.code yX5_writeTerm cX5_writeTerm 4 none :: wd) rm_X5_writeTerm 0 0 2 := cwV9 2 ht wi_479 wi_478 wi_20 wi_59 hlink (by decide +kernel) rfl rfl hR
def rm_X5_writeSum : Room := { frames := 5, cells := 0, slots := 0, locals := 123 }
def f_X5_writeSum_7 (nT : Nat) (zT : SumS) : Nat → WrS → Int32 → Option (WrS)
  | 0, _, _ => none
  | fu + 1, zW, x2 => (f_X4_size nT zT).bind fun r_1 => if r_1 ≤ x2 then if ¬ (gW_len zW) = 0 then some zW else (f_X5_append zW (48 : Int32)).bind fun r_4 => some r_4 else (f_X5_writeTerm nT zT zW x2).bind fun r_5 => f_X5_writeSum_7 nT zT fu r_5 (x2 + 1)
set_option maxHeartbeats 4000000 in
set_option maxRecDepth 100000 in
theorem b_X5_writeSum_7 {p : Program} {l : Launch} {e : Env} {s : State} {m : MethodId} {args : Array Value} {below : List Frame} {meth : Method} {c : Code} {G : va_G} {cA : Nat → ClassId} {W9 : va_W} (qW : Nat → Nat) (qT : Nat → Nat) (nT : Nat) (zT : SumS) (C0 : Amb p s m args meth c cX5_writeSum RX5 3 none G cA (adr W9) ((wSum cA qT nT zT))) {res : WrS} : ∀ (fu : Nat) (zW : WrS) (x2 : Int32) (H : Heap) (locs : List Loc) (ls : Array Slot), va_P G vwCl ((wWr cA qW zW)) H → va_D (adr W9) ((wWr cA qW zW)) → va_S (adr W9) s.heap H locs → lv_has ls 3 [(0, .ref (qW 0)), (1, .ref (qT 0)), (2, .int x2)] → f_X5_writeSum_7 nT zT fu zW x2 = some res → W p l e rm_X5_writeSum s m args below meth c H locs 0 0 (MQ below (qWv G W9 ((wWr cA qW res))) args s 0 0 (adr W9)) (F0 m 7 ls []) := by
  obtain ⟨hx, hb, hr, hml, hown, hts, hlocks, hK, hR, hRA⟩ := id C0
  intro fu
  induction fu with
  | zero =>
    intro zW x2 H locs ls hP hD hS hl hf
    rw [f_X5_writeSum_7] at hf
    cases hf
  | succ fu ih =>
    intro zW x2 H locs ls hP hD hS hl hf
    rw [f_X5_writeSum_7] at hf
    refine lv_iload_n hx hb dX5_writeSum_7 rfl (lv_at hl 2 rfl) ?_
    refine lv_aload_n hx hb dX5_writeSum_8 rfl (lv_at hl 1 rfl) ?_
    obtain ⟨r_1, hr_1, hf⟩ := obd hf
    refine cRiV (As := []) (rest := [.int x2]) ⟨hx, hb, hml, hown, hts⟩ (m_X4_size l G cA qT nT zT r_1 hr_1) (cw_X4_size hts wi_475 ⟨Nat.le_of_ble_eq_true rfl, Nat.le_of_ble_eq_true rfl⟩) hK (pk (roP hR hRA hS) [0, 1, 2, 3] rfl) (va_recv hK.1 (roP hR hRA hS) (ci := 2) (q0 := 0) rfl rfl) rfl hl.1 rfl (Nat.le_of_ble_eq_true rfl) dX5_writeSum_9 ⟨Nat.zero_le _, Nat.zero_le _⟩ ?_
    refine lv_icmp_ge (tgt := 27) hx hb dX5_writeSum_12 (by decide) (fun c_2 => ?_) (fun c_2 => ?_)
    · rw [if_pos (c_2)] at hf
      refine lv_aload_n hx hb dX5_writeSum_27 rfl (lv_at hl 0 rfl) ?_
      refine va_get (D := G) (ci := 3) (v := .int (gW_len zW)) (C := RX5) (T := TX5) (N := 2) hx hb hts fin_X5 hown hK.1 hP 0 rfl rfl 1 (by decide) (hts _ wi_165) (fun _ h9 => h9) rfl dX5_writeSum_28 ?_
      refine lv_if_ne (tgt := 40) hx hb dX5_writeSum_31 (by decide) (fun c_3 => ?_) (fun c_3 => ?_)
      · rw [if_pos (c_3)] at hf
        cases hf
        exact W.vret hx hb hr (fun t ht hW => ⟨⟨(), rfl, trivial, toT ht hP⟩, hS.F ht⟩) hS.2.2 dX5_writeSum_40 hlocks
      · rw [if_neg (not_not_intro c_3)] at hf
        refine lv_aload_n hx hb dX5_writeSum_34 rfl (lv_at hl 0 rfl) ?_
        refine lv_bipush (v := (48 : Int32)) hx hb dX5_writeSum_35 (by decide) ?_
        obtain ⟨r_4, hr_4, hf⟩ := obd hf
        refine cWvV (As := [.int (48 : Int32)]) (rest := []) (W1 := ((wWr cA qW r_4))) ⟨hx, hb, hml, hown, hts⟩ (m_X5_append l G cA qW zW (48 : Int32) r_4 hr_4) (cw_X5_append hts wi_484 ⟨Nat.le_of_ble_eq_true rfl, Nat.le_of_ble_eq_true rfl⟩) hK hP hD hS [0, 1] [2, 3] rfl rfl rfl (by decide) rfl va_Pnil dj_nil (va_recv hK.1 hP (ci := 3) (q0 := 0) rfl rfl) rfl hl.1 rfl (Nat.le_of_ble_eq_true rfl) dX5_writeSum_37 ⟨Nat.zero_le _, Nat.zero_le _⟩ (fun H locs hP hD hS => ?_)
        cases hf
        exact W.vret hx hb hr (fun t ht hW => ⟨⟨(), rfl, trivial, toT ht hP⟩, hS.F ht⟩) hS.2.2 dX5_writeSum_40 hlocks
    · rw [if_neg (c_2)] at hf
      refine lv_aload_n hx hb dX5_writeSum_15 rfl (lv_at hl 0 rfl) ?_
      refine lv_aload_n hx hb dX5_writeSum_16 rfl (lv_at hl 1 rfl) ?_
      refine lv_iload_n hx hb dX5_writeSum_17 rfl (lv_at hl 2 rfl) ?_
      obtain ⟨r_5, hr_5, hf⟩ := obd hf
      refine cWvV (As := [.ref (qT 0), .int x2]) (rest := []) (W1 := ((wWr cA qW r_5))) ⟨hx, hb, hml, hown, hts⟩ (m_X5_writeTerm l G cA qW qT nT zT zW x2 r_5 hr_5) (cw_X5_writeTerm hts wi_476 ⟨Nat.le_of_ble_eq_true rfl, Nat.le_of_ble_eq_true rfl⟩) hK hP hD hS [0, 1] [2, 3] rfl rfl rfl (by decide) rfl (pk (roP hR hRA hS) [0, 1, 2, 3] rfl) (dj_ro hD hRA [0, 1, 2, 3] (rfl : [0, 1].map _ = _) rfl) (va_recv hK.1 hP (ci := 3) (q0 := 0) rfl rfl) rfl hl.1 rfl (Nat.le_of_ble_eq_true rfl) dX5_writeSum_18 ⟨Nat.zero_le _, Nat.zero_le _⟩ (fun H locs hP hD hS => ?_)
      refine lv_iinc (v := (x2 + 1)) (lv' := [(2, .int (x2 + 1)), (0, .ref (qW 0)), (1, .ref (qT 0))]) hx hb dX5_writeSum_21 hl (k := 2) rfl rfl (by decide) rfl (fun ls hl => ?_)
      refine lv_goto (tgt := 7) hx hb dX5_writeSum_24 (by decide) ?_
      exact ih r_5 (x2 + 1) H locs ls hP hD hS (lv_sub hl [1, 2, 0] rfl) hf
def f_X5_writeSum (nT : Nat) (zT : SumS) (zW : WrS) : Option (WrS) := f_X5_writeSum_7 nT zT fuel (uW_len zW (0 : Int32)) (0 : Int32)
set_option maxHeartbeats 4000000 in
set_option maxRecDepth 100000 in
theorem b_X5_writeSum_0 {p : Program} {l : Launch} {e : Env} {s : State} {m : MethodId} {args : Array Value} {below : List Frame} {meth : Method} {c : Code} {G : va_G} {cA : Nat → ClassId} {W9 : va_W} (qW : Nat → Nat) (qT : Nat → Nat) (nT : Nat) (zT : SumS) (C0 : Amb p s m args meth c cX5_writeSum RX5 3 none G cA (adr W9) ((wSum cA qT nT zT))) {res : WrS} : ∀ (zW : WrS) (H : Heap) (locs : List Loc) (ls : Array Slot), va_P G vwCl ((wWr cA qW zW)) H → va_D (adr W9) ((wWr cA qW zW)) → va_S (adr W9) s.heap H locs → lv_has ls 3 [(0, .ref (qW 0)), (1, .ref (qT 0))] → f_X5_writeSum nT zT zW = some res → W p l e rm_X5_writeSum s m args below meth c H locs 0 0 (MQ below (qWv G W9 ((wWr cA qW res))) args s 0 0 (adr W9)) (F0 m 0 ls []) := by
  obtain ⟨hx, hb, hr, hml, hown, hts, hlocks, hK, hR, hRA⟩ := id C0
  intro zW H locs ls hP hD hS hl hf
  unfold f_X5_writeSum at hf
  refine lv_aload_n hx hb dX5_writeSum_0 rfl (lv_at hl 0 rfl) ?_
  refine lv_iconst (v := 0) hx hb dX5_writeSum_1 (by decide) ?_
  refine va_put (D := G) (ci := 3) (v := .int (0 : Int32)) (ty := .int) (C := RX5) (T := TX5) (N := 2) hx hb hts fin_X5 tyX5 tyX5_ok nmX5 hown hK.1 hP hD hS 0 rfl rfl 1 (by decide) (hts _ wi_165) (fun _ h9 => h9) rfl (by decide +kernel) rfl rfl (Nat.le_of_ble_eq_true rfl) dX5_writeSum_2 (fun H locs hP hD hS => ?_)
  have hP := sW_len_P hP
  have hD := sW_len_D hD
  refine lv_iconst (v := 0) hx hb dX5_writeSum_5 (by decide) ?_
  refine lv_istore_n (lv' := [(2, .int (0 : Int32)), (0, .ref (qW 0)), (1, .ref (qT 0))]) hx hb dX5_writeSum_6 rfl hl (by decide) rfl (fun ls hl => ?_)
  exact b_X5_writeSum_7 qW qT nT  zT C0  fuel (uW_len zW (0 : Int32)) (0 : Int32) H locs ls hP hD hS (lv_sub hl [1, 2, 0] rfl) hf

set_option maxRecDepth 100000 in
theorem m_X5_writeSum (l : Launch) (G : va_G) (cA : Nat → ClassId) (qW : Nat → Nat) (qT : Nat → Nat) (nT : Nat) (zT : SumS) (zW : WrS) (res : WrS) (hf : f_X5_writeSum nT zT zW = some res) : MWv l yX5_writeSum (.code yX5_writeSum cX5_writeSum 3 none :: wd) rm_X5_writeSum G cA [.ref (qW 0), .ref (qT 0)] ((wWr cA qW zW)) ((wSum cA qT nT zT)) ((wWr cA qW res)) := by
  refine Met.ofW (cc := cX5_writeSum) (maxL := 3) (ret := none) (by decide) rfl ?_
  intro p e s m args below meth c s₁ B hml hv
  obtain ⟨rfl, hK, hP, hD0, hR, hRA⟩ := hv
  have C0 : Amb p s m ([.ref (qW 0), .ref (qT 0)] : List Value).toArray meth c cX5_writeSum RX5 3 none G cA (adr ((wWr cA qW zW))) ((wSum cA qT nT zT)) := ⟨B.exec, B.bytes, B.returns, hml, findClass_of_methodNamed B.named, fun w h => atoms_spec (ws := (.code yX5_writeSum cX5_writeSum 3 none :: wd)) B.pre w (List.mem_cons_of_mem _ h), B.notSynchronized, hK, hR, hRA⟩
  have hl := lv_entry ([.ref (qW 0), .ref (qT 0)]) (n := 3) (Nat.le_of_ble_eq_true rfl)
  rw [lg_entry_eq]
  generalize (lg_sl ([.ref (qW 0), .ref (qT 0)]) ++ List.replicate (3 - (lg_sl ([.ref (qW 0), .ref (qT 0)])).length) Slot.unset).toArray = ls at hl ⊢
  have hl : lv_has ls 3 [(0, .ref (qW 0)), (1, .ref (qT 0))] := hl
  exact b_X5_writeSum_0 (W9 := ((wWr cA qW zW))) qW qT nT  zT C0 zW s.heap [] ls hP (adr.self hD0) va_S.rf hl hf
theorem cw_X5_writeSum {R : Room} {s : State} {args : Array Value} {own : String} {index : Nat} (ht : ∀ w ∈ wd, w.before args s = true) (hlink : Cond.methodLink own index yX5_writeSum ∈ wd) (hR : rm_X5_writeSum.frames + 1 ≤ R.frames ∧ 8 + (3 + 11) + rm_X5_writeSum.locals ≤ R.locals) : CallW R s args own RX5 index yX5_writeSum cX5_writeSum 3 none (.code yX5_writeSum cX5_writeSum 3 none :: wd) rm_X5_writeSum 0 0 1 := cwV9 1 ht wi_474 wi_472 wi_473 wi_59 hlink (by decide +kernel) rfl rfl hR
def rm_X2_isWave : Room := { frames := 0, cells := 0, slots := 0, locals := 0 }
def f_X2_isWave_10  : Option (Int32) := some (1 : Int32)
set_option maxHeartbeats 4000000 in
set_option maxRecDepth 100000 in
theorem b_X2_isWave_10 {p : Program} {l : Launch} {e : Env} {s : State} {m : MethodId} {args : Array Value} {below : List Frame} {meth : Method} {c : Code} {G : va_G} {cA : Nat → ClassId} (C0 : Amb p s m args meth c cX2_isWave RX2 1 (some .boolean) G cA (fun _ : Nat => False) []) {res : Int32} : ∀ (ls : Array Slot), lv_has ls 1 [] → f_X2_isWave_10  = some res → W p l e rm_X2_isWave s m args below meth c s.heap [] 0 0 (MQ below (vp_Si (fun x => x = res)) args s 0 0 (fun _ : Nat => False)) (F0 m 10 ls []) := by
  obtain ⟨hx, hb, hr, hml, hown, hts, hlocks, hK, hR, hRA⟩ := id C0
  intro ls hl hf
  unfold f_X2_isWave_10 at hf
  refine lv_iconst (v := 1) hx hb dX2_isWave_10 (by decide) ?_
  refine lv_goto (tgt := 15) hx hb dX2_isWave_11 (by decide) ?_
  cases hf
  exact W.zret hx hb hr (by decide) (fun t ht hW => ⟨_, rfl, rfl, ht⟩) (fun q hq => by cases hq) dX2_isWave_15 hlocks
def f_X2_isWave (a0 : Int32) : Option (Int32) := if a0 = (3 : Int32) then f_X2_isWave_10 else if ¬ a0 = (4 : Int32) then some (0 : Int32) else f_X2_isWave_10
set_option maxHeartbeats 4000000 in
set_option maxRecDepth 100000 in
theorem b_X2_isWave_0 {p : Program} {l : Launch} {e : Env} {s : State} {m : MethodId} {args : Array Value} {below : List Frame} {meth : Method} {c : Code} {G : va_G} {cA : Nat → ClassId} (C0 : Amb p s m args meth c cX2_isWave RX2 1 (some .boolean) G cA (fun _ : Nat => False) []) {res : Int32} : ∀ (a0 : Int32) (ls : Array Slot), lv_has ls 1 [(0, .int a0)] → f_X2_isWave a0 = some res → W p l e rm_X2_isWave s m args below meth c s.heap [] 0 0 (MQ below (vp_Si (fun x => x = res)) args s 0 0 (fun _ : Nat => False)) (F0 m 0 ls []) := by
  obtain ⟨hx, hb, hr, hml, hown, hts, hlocks, hK, hR, hRA⟩ := id C0
  intro a0 ls hl hf
  unfold f_X2_isWave at hf
  refine lv_iload_n hx hb dX2_isWave_0 rfl (lv_at hl 0 rfl) ?_
  refine lv_iconst (v := 3) hx hb dX2_isWave_1 (by decide) ?_
  refine lv_icmp_eq (tgt := 10) hx hb dX2_isWave_2 (by decide) (fun c_1 => ?_) (fun c_1 => ?_)
  · rw [if_pos (c_1)] at hf
    exact b_X2_isWave_10    C0   ls (lv_sub hl [] rfl) hf
  · rw [if_neg (c_1)] at hf
    refine lv_iload_n hx hb dX2_isWave_5 rfl (lv_at hl 0 rfl) ?_
    refine lv_iconst (v := 4) hx hb dX2_isWave_6 (by decide) ?_
    refine lv_icmp_ne (tgt := 14) hx hb dX2_isWave_7 (by decide) (fun c_2 => ?_) (fun c_2 => ?_)
    · rw [if_pos (c_2)] at hf
      refine lv_iconst (v := 0) hx hb dX2_isWave_14 (by decide) ?_
      cases hf
      exact W.zret hx hb hr (by decide) (fun t ht hW => ⟨_, rfl, rfl, ht⟩) (fun q hq => by cases hq) dX2_isWave_15 hlocks
    · rw [if_neg (not_not_intro c_2)] at hf
      exact b_X2_isWave_10    C0   ls (lv_sub hl [] rfl) hf

set_option maxRecDepth 100000 in
theorem m_X2_isWave (l : Launch) (G : va_G) (cA : Nat → ClassId) (a0 : Int32) (res : Int32) (hf : f_X2_isWave a0 = some res) : MRi l yX2_isWave (.code yX2_isWave cX2_isWave 1 (some .boolean) :: wd) rm_X2_isWave G cA [.int a0] [] res := by
  refine Met.ofW (cc := cX2_isWave) (maxL := 1) (ret := (some .boolean)) (by decide) rfl ?_
  intro p e s m args below meth c s₁ B hml hv
  obtain ⟨rfl, hK, hR⟩ := hv
  have C0 : Amb p s m ([.int a0] : List Value).toArray meth c cX2_isWave RX2 1 (some .boolean) G cA (fun _ : Nat => False) [] := ⟨B.exec, B.bytes, B.returns, hml, findClass_of_methodNamed B.named, fun w h => atoms_spec (ws := (.code yX2_isWave cX2_isWave 1 (some .boolean) :: wd)) B.pre w (List.mem_cons_of_mem _ h), B.notSynchronized, hK, hR, fun _ _ _ h => h⟩
  have hl := lv_entry ([.int a0]) (n := 1) (Nat.le_of_ble_eq_true rfl)
  rw [lg_entry_eq]
  generalize (lg_sl ([.int a0]) ++ List.replicate (1 - (lg_sl ([.int a0])).length) Slot.unset).toArray = ls at hl ⊢
  have hl : lv_has ls 1 [(0, .int a0)] := hl
  exact b_X2_isWave_0    C0 a0 ls hl hf
theorem cw_X2_isWave {R : Room} {s : State} {args : Array Value} {own : String} {index : Nat} (ht : ∀ w ∈ wd, w.before args s = true) (hlink : Cond.methodLink own index yX2_isWave ∈ wd) (hR : rm_X2_isWave.frames + 1 ≤ R.frames ∧ 8 + (1 + 11) + rm_X2_isWave.locals ≤ R.locals) : CallB R s args own index yX2_isWave cX2_isWave 1 (some .boolean) (.code yX2_isWave cX2_isWave 1 (some .boolean) :: wd) rm_X2_isWave 0 0 1 ∧ (Cond.static yX2_isWave).before args s = true := cwS9 1 ht wi_568 wi_567 wi_67 hlink (by decide +kernel) rfl rfl hR
def rm_X2_canMeet : Room := { frames := 1, cells := 0, slots := 0, locals := 20 }
def f_X2_canMeet_27  : Option (Int32) := some (1 : Int32)
set_option maxHeartbeats 4000000 in
set_option maxRecDepth 100000 in
theorem b_X2_canMeet_27 {p : Program} {l : Launch} {e : Env} {s : State} {m : MethodId} {args : Array Value} {below : List Frame} {meth : Method} {c : Code} {G : va_G} {cA : Nat → ClassId} (C0 : Amb p s m args meth c cX2_canMeet RX2 2 (some .boolean) G cA (fun _ : Nat => False) []) {res : Int32} : ∀ (ls : Array Slot), lv_has ls 2 [] → f_X2_canMeet_27  = some res → W p l e rm_X2_canMeet s m args below meth c s.heap [] 0 0 (MQ below (vp_Si (fun x => x = res)) args s 0 0 (fun _ : Nat => False)) (F0 m 27 ls []) := by
  obtain ⟨hx, hb, hr, hml, hown, hts, hlocks, hK, hR, hRA⟩ := id C0
  intro ls hl hf
  unfold f_X2_canMeet_27 at hf
  refine lv_iconst (v := 1) hx hb dX2_canMeet_27 (by decide) ?_
  refine lv_goto (tgt := 32) hx hb dX2_canMeet_28 (by decide) ?_
  cases hf
  exact W.zret hx hb hr (by decide) (fun t ht hW => ⟨_, rfl, rfl, ht⟩) (fun q hq => by cases hq) dX2_canMeet_32 hlocks
def f_X2_canMeet (a0 : Int32) (a1 : Int32) : Option (Int32) := if a0 = a1 then f_X2_canMeet_27 else if a0 = 0 then f_X2_canMeet_27 else if a1 = 0 then f_X2_canMeet_27 else (f_X2_isWave a0).bind fun r_4 => if r_4 = 0 then some (0 : Int32) else (f_X2_isWave a1).bind fun r_6 => if r_6 = 0 then some (0 : Int32) else f_X2_canMeet_27
set_option maxHeartbeats 4000000 in
set_option maxRecDepth 100000 in
theorem b_X2_canMeet_0 {p : Program} {l : Launch} {e : Env} {s : State} {m : MethodId} {args : Array Value} {below : List Frame} {meth : Method} {c : Code} {G : va_G} {cA : Nat → ClassId} (C0 : Amb p s m args meth c cX2_canMeet RX2 2 (some .boolean) G cA (fun _ : Nat => False) []) {res : Int32} : ∀ (a0 : Int32) (a1 : Int32) (ls : Array Slot), lv_has ls 2 [(0, .int a0), (1, .int a1)] → f_X2_canMeet a0 a1 = some res → W p l e rm_X2_canMeet s m args below meth c s.heap [] 0 0 (MQ below (vp_Si (fun x => x = res)) args s 0 0 (fun _ : Nat => False)) (F0 m 0 ls []) := by
  obtain ⟨hx, hb, hr, hml, hown, hts, hlocks, hK, hR, hRA⟩ := id C0
  intro a0 a1 ls hl hf
  unfold f_X2_canMeet at hf
  refine lv_iload_n hx hb dX2_canMeet_0 rfl (lv_at hl 0 rfl) ?_
  refine lv_iload_n hx hb dX2_canMeet_1 rfl (lv_at hl 1 rfl) ?_
  refine lv_icmp_eq (tgt := 27) hx hb dX2_canMeet_2 (by decide) (fun c_1 => ?_) (fun c_1 => ?_)
  · rw [if_pos (c_1)] at hf
    exact b_X2_canMeet_27    C0   ls (lv_sub hl [] rfl) hf
  · rw [if_neg (c_1)] at hf
    refine lv_iload_n hx hb dX2_canMeet_5 rfl (lv_at hl 0 rfl) ?_
    refine lv_if_eq (tgt := 27) hx hb dX2_canMeet_6 (by decide) (fun c_2 => ?_) (fun c_2 => ?_)
    · rw [if_pos (c_2)] at hf
      exact b_X2_canMeet_27    C0   ls (lv_sub hl [] rfl) hf
    · rw [if_neg (c_2)] at hf
      refine lv_iload_n hx hb dX2_canMeet_9 rfl (lv_at hl 1 rfl) ?_
      refine lv_if_eq (tgt := 27) hx hb dX2_canMeet_10 (by decide) (fun c_3 => ?_) (fun c_3 => ?_)
      · rw [if_pos (c_3)] at hf
        exact b_X2_canMeet_27    C0   ls (lv_sub hl [] rfl) hf
      · rw [if_neg (c_3)] at hf
        refine lv_iload_n hx hb dX2_canMeet_13 rfl (lv_at hl 0 rfl) ?_
        obtain ⟨r_4, hr_4, hf⟩ := obd hf
        refine cRiS (As := [.int a0]) (rest := []) ⟨hx, hb, hml, hown, hts⟩ (m_X2_isWave l G cA a0 r_4 hr_4) (cw_X2_isWave hts wi_566 ⟨Nat.le_of_ble_eq_true rfl, Nat.le_of_ble_eq_true rfl⟩) hK va_Pnil rfl hl.1 rfl (Nat.le_of_ble_eq_true rfl) dX2_canMeet_14 ⟨Nat.zero_le _, Nat.zero_le _⟩ ?_
        refine lv_if_eq (tgt := 31) hx hb dX2_canMeet_17 (by decide) (fun c_5 => ?_) (fun c_5 => ?_)
        · rw [if_pos (c_5)] at hf
          refine lv_iconst (v := 0) hx hb dX2_canMeet_31 (by decide) ?_
          cases hf
          exact W.zret hx hb hr (by decide) (fun t ht hW => ⟨_, rfl, rfl, ht⟩) (fun q hq => by cases hq) dX2_canMeet_32 hlocks
        · rw [if_neg (c_5)] at hf
          refine lv_iload_n hx hb dX2_canMeet_20 rfl (lv_at hl 1 rfl) ?_
          obtain ⟨r_6, hr_6, hf⟩ := obd hf
          refine cRiS (As := [.int a1]) (rest := []) ⟨hx, hb, hml, hown, hts⟩ (m_X2_isWave l G cA a1 r_6 hr_6) (cw_X2_isWave hts wi_566 ⟨Nat.le_of_ble_eq_true rfl, Nat.le_of_ble_eq_true rfl⟩) hK va_Pnil rfl hl.1 rfl (Nat.le_of_ble_eq_true rfl) dX2_canMeet_21 ⟨Nat.zero_le _, Nat.zero_le _⟩ ?_
          refine lv_if_eq (tgt := 31) hx hb dX2_canMeet_24 (by decide) (fun c_7 => ?_) (fun c_7 => ?_)
          · rw [if_pos (c_7)] at hf
            refine lv_iconst (v := 0) hx hb dX2_canMeet_31 (by decide) ?_
            cases hf
            exact W.zret hx hb hr (by decide) (fun t ht hW => ⟨_, rfl, rfl, ht⟩) (fun q hq => by cases hq) dX2_canMeet_32 hlocks
          · rw [if_neg (c_7)] at hf
            exact b_X2_canMeet_27    C0   ls (lv_sub hl [] rfl) hf

set_option maxRecDepth 100000 in
theorem m_X2_canMeet (l : Launch) (G : va_G) (cA : Nat → ClassId) (a0 : Int32) (a1 : Int32) (res : Int32) (hf : f_X2_canMeet a0 a1 = some res) : MRi l yX2_canMeet (.code yX2_canMeet cX2_canMeet 2 (some .boolean) :: wd) rm_X2_canMeet G cA [.int a0, .int a1] [] res := by
  refine Met.ofW (cc := cX2_canMeet) (maxL := 2) (ret := (some .boolean)) (by decide) rfl ?_
  intro p e s m args below meth c s₁ B hml hv
  obtain ⟨rfl, hK, hR⟩ := hv
  have C0 : Amb p s m ([.int a0, .int a1] : List Value).toArray meth c cX2_canMeet RX2 2 (some .boolean) G cA (fun _ : Nat => False) [] := ⟨B.exec, B.bytes, B.returns, hml, findClass_of_methodNamed B.named, fun w h => atoms_spec (ws := (.code yX2_canMeet cX2_canMeet 2 (some .boolean) :: wd)) B.pre w (List.mem_cons_of_mem _ h), B.notSynchronized, hK, hR, fun _ _ _ h => h⟩
  have hl := lv_entry ([.int a0, .int a1]) (n := 2) (Nat.le_of_ble_eq_true rfl)
  rw [lg_entry_eq]
  generalize (lg_sl ([.int a0, .int a1]) ++ List.replicate (2 - (lg_sl ([.int a0, .int a1])).length) Slot.unset).toArray = ls at hl ⊢
  have hl : lv_has ls 2 [(0, .int a0), (1, .int a1)] := hl
  exact b_X2_canMeet_0    C0 a0 a1 ls hl hf
theorem cw_X2_canMeet {R : Room} {s : State} {args : Array Value} {own : String} {index : Nat} (ht : ∀ w ∈ wd, w.before args s = true) (hlink : Cond.methodLink own index yX2_canMeet ∈ wd) (hR : rm_X2_canMeet.frames + 1 ≤ R.frames ∧ 8 + (2 + 11) + rm_X2_canMeet.locals ≤ R.locals) : CallB R s args own index yX2_canMeet cX2_canMeet 2 (some .boolean) (.code yX2_canMeet cX2_canMeet 2 (some .boolean) :: wd) rm_X2_canMeet 0 0 2 ∧ (Cond.static yX2_canMeet).before args s = true := cwS9 2 ht wi_565 wi_564 wi_67 hlink (by decide +kernel) rfl rfl hR
def rm_X2_canBeTold : Room := { frames := 2, cells := 0, slots := 0, locals := 42 }
def f_X2_canBeTold_12 (nA : Nat) (nB : Nat) (zA : SumS) (zB : SumS) (kb_2 : Int32 → Option (Int32)) : Nat → Int32 → Int32 → Option (Int32)
  | 0, _, _ => none
  | fu + 1, x2, x3 => (f_X4_size nB zB).bind fun r_1 => if r_1 ≤ x3 then kb_2 (x2 + 1) else (f_X4_kindAt nA zA x2).bind fun r_3 => (f_X4_kindAt nB zB x3).bind fun r_4 => (f_X2_canMeet r_3 r_4).bind fun r_5 => if ¬ r_5 = 0 then f_X2_canBeTold_12 nA nB zA zB kb_2 fu x2 (x3 + 1) else some (0 : Int32)
set_option maxHeartbeats 4000000 in
set_option maxRecDepth 100000 in
theorem b_X2_canBeTold_12 {p : Program} {l : Launch} {e : Env} {s : State} {m : MethodId} {args : Array Value} {below : List Frame} {meth : Method} {c : Code} {G : va_G} {cA : Nat → ClassId} (qA : Nat → Nat) (nA : Nat) (qB : Nat → Nat) (nB : Nat) (zA : SumS) (zB : SumS) (C0 : Amb p s m args meth c cX2_canBeTold RX2 4 (some .boolean) G cA (fun _ : Nat => False) ((wSum cA qA nA zA) ++ (wSum cA qB nB zB))) {res : Int32} (kb_2 : Int32 → Option (Int32)) (hkb_2 : ∀ (x2 : Int32) (ls : Array Slot), lv_has ls 4 [(0, .ref (qA 0)), (1, .ref (qB 0)), (2, .int x2)] → kb_2 x2 = some res → W p l e rm_X2_canBeTold s m args below meth c s.heap [] 0 0 (MQ below (vp_Si (fun x => x = res)) args s 0 0 (fun _ : Nat => False)) (F0 m 2 ls [])) : ∀ (fu : Nat) (x2 : Int32) (x3 : Int32) (ls : Array Slot), lv_has ls 4 [(0, .ref (qA 0)), (1, .ref (qB 0)), (2, .int x2), (3, .int x3)] → f_X2_canBeTold_12 nA nB zA zB kb_2 fu x2 x3 = some res → W p l e rm_X2_canBeTold s m args below meth c s.heap [] 0 0 (MQ below (vp_Si (fun x => x = res)) args s 0 0 (fun _ : Nat => False)) (F0 m 12 ls []) := by
  obtain ⟨hx, hb, hr, hml, hown, hts, hlocks, hK, hR, hRA⟩ := id C0
  intro fu
  induction fu with
  | zero =>
    intro x2 x3 ls hl hf
    rw [f_X2_canBeTold_12] at hf
    cases hf
  | succ fu ih =>
    intro x2 x3 ls hl hf
    rw [f_X2_canBeTold_12] at hf
    refine lv_iload_n hx hb dX2_canBeTold_12 rfl (lv_at hl 3 rfl) ?_
    refine lv_aload_n hx hb dX2_canBeTold_13 rfl (lv_at hl 1 rfl) ?_
    obtain ⟨r_1, hr_1, hf⟩ := obd hf
    refine cRiV (As := []) (rest := [.int x3]) ⟨hx, hb, hml, hown, hts⟩ (m_X4_size l G cA qB nB zB r_1 hr_1) (cw_X4_size hts wi_561 ⟨Nat.le_of_ble_eq_true rfl, Nat.le_of_ble_eq_true rfl⟩) hK (pk hR [4, 5, 6, 7] rfl) (va_recv hK.1 hR (ci := 2) (q0 := 4) rfl rfl) rfl hl.1 rfl (Nat.le_of_ble_eq_true rfl) dX2_canBeTold_14 ⟨Nat.zero_le _, Nat.zero_le _⟩ ?_
    refine lv_icmp_ge (tgt := 44) hx hb dX2_canBeTold_17 (by decide) (fun c_2 => ?_) (fun c_2 => ?_)
    · rw [if_pos (c_2)] at hf
      refine lv_iinc (v := (x2 + 1)) (lv' := [(2, .int (x2 + 1)), (0, .ref (qA 0)), (1, .ref (qB 0)), (3, .int x3)]) hx hb dX2_canBeTold_44 hl (k := 2) rfl rfl (by decide) rfl (fun ls hl => ?_)
      refine lv_goto (tgt := 2) hx hb dX2_canBeTold_47 (by decide) ?_
      exact hkb_2 (x2 + 1) ls (lv_sub hl [1, 2, 0] rfl) hf
    · rw [if_neg (c_2)] at hf
      refine lv_aload_n hx hb dX2_canBeTold_20 rfl (lv_at hl 0 rfl) ?_
      refine lv_iload_n hx hb dX2_canBeTold_21 rfl (lv_at hl 2 rfl) ?_
      obtain ⟨r_3, hr_3, hf⟩ := obd hf
      refine cRiV (As := [.int x2]) (rest := []) ⟨hx, hb, hml, hown, hts⟩ (m_X4_kindAt l G cA qA nA zA x2 r_3 hr_3) (cw_X4_kindAt hts wi_562 ⟨Nat.le_of_ble_eq_true rfl, Nat.le_of_ble_eq_true rfl⟩) hK (pk hR [0, 1, 2, 3] rfl) (va_recv hK.1 hR (ci := 2) (q0 := 0) rfl rfl) rfl hl.1 rfl (Nat.le_of_ble_eq_true rfl) dX2_canBeTold_22 ⟨Nat.zero_le _, Nat.zero_le _⟩ ?_
      refine lv_aload_n hx hb dX2_canBeTold_25 rfl (lv_at hl 1 rfl) ?_
      refine lv_iload_n hx hb dX2_canBeTold_26 rfl (lv_at hl 3 rfl) ?_
      obtain ⟨r_4, hr_4, hf⟩ := obd hf
      refine cRiV (As := [.int x3]) (rest := [.int r_3]) ⟨hx, hb, hml, hown, hts⟩ (m_X4_kindAt l G cA qB nB zB x3 r_4 hr_4) (cw_X4_kindAt hts wi_562 ⟨Nat.le_of_ble_eq_true rfl, Nat.le_of_ble_eq_true rfl⟩) hK (pk hR [4, 5, 6, 7] rfl) (va_recv hK.1 hR (ci := 2) (q0 := 4) rfl rfl) rfl hl.1 rfl (Nat.le_of_ble_eq_true rfl) dX2_canBeTold_27 ⟨Nat.zero_le _, Nat.zero_le _⟩ ?_
      obtain ⟨r_5, hr_5, hf⟩ := obd hf
      refine cRiS (As := [.int r_3, .int r_4]) (rest := []) ⟨hx, hb, hml, hown, hts⟩ (m_X2_canMeet l G cA r_3 r_4 r_5 hr_5) (cw_X2_canMeet hts wi_563 ⟨Nat.le_of_ble_eq_true rfl, Nat.le_of_ble_eq_true rfl⟩) hK va_Pnil rfl hl.1 rfl (Nat.le_of_ble_eq_true rfl) dX2_canBeTold_30 ⟨Nat.zero_le _, Nat.zero_le _⟩ ?_
      refine lv_if_ne (tgt := 38) hx hb dX2_canBeTold_33 (by decide) (fun c_6 => ?_) (fun c_6 => ?_)
      · rw [if_pos (c_6)] at hf
        refine lv_iinc (v := (x3 + 1)) (lv' := [(3, .int (x3 + 1)), (0, .ref (qA 0)), (1, .ref (qB 0)), (2, .int x2)]) hx hb dX2_canBeTold_38 hl (k := 3) rfl rfl (by decide) rfl (fun ls hl => ?_)
        refine lv_goto (tgt := 12) hx hb dX2_canBeTold_41 (by decide) ?_
        exact ih x2 (x3 + 1) ls (lv_sub hl [1, 2, 3, 0] rfl) hf
      · rw [if_neg (not_not_intro c_6)] at hf
        refine lv_iconst (v := 0) hx hb dX2_canBeTold_36 (by decide) ?_
        cases hf
        exact W.zret hx hb hr (by decide) (fun t ht hW => ⟨_, rfl, rfl, ht⟩) (fun q hq => by cases hq) dX2_canBeTold_37 hlocks
def f_X2_canBeTold_2 (nA : Nat) (nB : Nat) (zA : SumS) (zB : SumS) : Nat → Int32 → Option (Int32)
  | 0, _ => none
  | fu + 1, x2 => (f_X4_size nA zA).bind fun r_1 => if r_1 ≤ x2 then some (1 : Int32) else f_X2_canBeTold_12 nA nB zA zB (fun x2_ => f_X2_canBeTold_2 nA nB zA zB fu x2_) fuel x2 (0 : Int32)
set_option maxHeartbeats 4000000 in
set_option maxRecDepth 100000 in
theorem b_X2_canBeTold_2 {p : Program} {l : Launch} {e : Env} {s : State} {m : MethodId} {args : Array Value} {below : List Frame} {meth : Method} {c : Code} {G : va_G} {cA : Nat → ClassId} (qA : Nat → Nat) (nA : Nat) (qB : Nat → Nat) (nB : Nat) (zA : SumS) (zB : SumS) (C0 : Amb p s m args meth c cX2_canBeTold RX2 4 (some .boolean) G cA (fun _ : Nat => False) ((wSum cA qA nA zA) ++ (wSum cA qB nB zB))) {res : Int32} : ∀ (fu : Nat) (x2 : Int32) (ls : Array Slot), lv_has ls 4 [(0, .ref (qA 0)), (1, .ref (qB 0)), (2, .int x2)] → f_X2_canBeTold_2 nA nB zA zB fu x2 = some res → W p l e rm_X2_canBeTold s m args below meth c s.heap [] 0 0 (MQ below (vp_Si (fun x => x = res)) args s 0 0 (fun _ : Nat => False)) (F0 m 2 ls []) := by
  obtain ⟨hx, hb, hr, hml, hown, hts, hlocks, hK, hR, hRA⟩ := id C0
  intro fu
  induction fu with
  | zero =>
    intro x2 ls hl hf
    rw [f_X2_canBeTold_2] at hf
    cases hf
  | succ fu ih =>
    intro x2 ls hl hf
    rw [f_X2_canBeTold_2] at hf
    refine lv_iload_n hx hb dX2_canBeTold_2 rfl (lv_at hl 2 rfl) ?_
    refine lv_aload_n hx hb dX2_canBeTold_3 rfl (lv_at hl 0 rfl) ?_
    obtain ⟨r_1, hr_1, hf⟩ := obd hf
    refine cRiV (As := []) (rest := [.int x2]) ⟨hx, hb, hml, hown, hts⟩ (m_X4_size l G cA qA nA zA r_1 hr_1) (cw_X4_size hts wi_561 ⟨Nat.le_of_ble_eq_true rfl, Nat.le_of_ble_eq_true rfl⟩) hK (pk hR [0, 1, 2, 3] rfl) (va_recv hK.1 hR (ci := 2) (q0 := 0) rfl rfl) rfl hl.1 rfl (Nat.le_of_ble_eq_true rfl) dX2_canBeTold_4 ⟨Nat.zero_le _, Nat.zero_le _⟩ ?_
    refine lv_icmp_ge (tgt := 50) hx hb dX2_canBeTold_7 (by decide) (fun c_2 => ?_) (fun c_2 => ?_)
    · rw [if_pos (c_2)] at hf
      refine lv_iconst (v := 1) hx hb dX2_canBeTold_50 (by decide) ?_
      cases hf
      exact W.zret hx hb hr (by decide) (fun t ht hW => ⟨_, rfl, rfl, ht⟩) (fun q hq => by cases hq) dX2_canBeTold_51 hlocks
    · rw [if_neg (c_2)] at hf
      refine lv_iconst (v := 0) hx hb dX2_canBeTold_10 (by decide) ?_
      refine lv_istore_n (lv' := [(3, .int (0 : Int32)), (0, .ref (qA 0)), (1, .ref (qB 0)), (2, .int x2)]) hx hb dX2_canBeTold_11 rfl hl (by decide) rfl (fun ls hl => ?_)
      exact b_X2_canBeTold_12 qA nA qB nB  zA zB C0 (fun x2_ => f_X2_canBeTold_2 nA nB zA zB fu x2_) ih fuel x2 (0 : Int32) ls (lv_sub hl [1, 2, 3, 0] rfl) hf
def f_X2_canBeTold (nA : Nat) (nB : Nat) (zA : SumS) (zB : SumS) : Option (Int32) := f_X2_canBeTold_2 nA nB zA zB fuel (0 : Int32)
set_option maxHeartbeats 4000000 in
set_option maxRecDepth 100000 in
theorem b_X2_canBeTold_0 {p : Program} {l : Launch} {e : Env} {s : State} {m : MethodId} {args : Array Value} {below : List Frame} {meth : Method} {c : Code} {G : va_G} {cA : Nat → ClassId} (qA : Nat → Nat) (nA : Nat) (qB : Nat → Nat) (nB : Nat) (zA : SumS) (zB : SumS) (C0 : Amb p s m args meth c cX2_canBeTold RX2 4 (some .boolean) G cA (fun _ : Nat => False) ((wSum cA qA nA zA) ++ (wSum cA qB nB zB))) {res : Int32} : ∀ (ls : Array Slot), lv_has ls 4 [(0, .ref (qA 0)), (1, .ref (qB 0))] → f_X2_canBeTold nA nB zA zB = some res → W p l e rm_X2_canBeTold s m args below meth c s.heap [] 0 0 (MQ below (vp_Si (fun x => x = res)) args s 0 0 (fun _ : Nat => False)) (F0 m 0 ls []) := by
  obtain ⟨hx, hb, hr, hml, hown, hts, hlocks, hK, hR, hRA⟩ := id C0
  intro ls hl hf
  unfold f_X2_canBeTold at hf
  refine lv_iconst (v := 0) hx hb dX2_canBeTold_0 (by decide) ?_
  refine lv_istore_n (lv' := [(2, .int (0 : Int32)), (0, .ref (qA 0)), (1, .ref (qB 0))]) hx hb dX2_canBeTold_1 rfl hl (by decide) rfl (fun ls hl => ?_)
  exact b_X2_canBeTold_2 qA nA qB nB  zA zB C0  fuel (0 : Int32) ls (lv_sub hl [1, 2, 0] rfl) hf

set_option maxRecDepth 100000 in
theorem m_X2_canBeTold (l : Launch) (G : va_G) (cA : Nat → ClassId) (qA : Nat → Nat) (nA : Nat) (qB : Nat → Nat) (nB : Nat) (zA : SumS) (zB : SumS)  (res : Int32) (hf : f_X2_canBeTold nA nB zA zB = some res) : MRi l yX2_canBeTold (.code yX2_canBeTold cX2_canBeTold 4 (some .boolean) :: wd) rm_X2_canBeTold G cA [.ref (qA 0), .ref (qB 0)] ((wSum cA qA nA zA) ++ (wSum cA qB nB zB)) res := by
  refine Met.ofW (cc := cX2_canBeTold) (maxL := 4) (ret := (some .boolean)) (by decide) rfl ?_
  intro p e s m args below meth c s₁ B hml hv
  obtain ⟨rfl, hK, hR⟩ := hv
  have C0 : Amb p s m ([.ref (qA 0), .ref (qB 0)] : List Value).toArray meth c cX2_canBeTold RX2 4 (some .boolean) G cA (fun _ : Nat => False) ((wSum cA qA nA zA) ++ (wSum cA qB nB zB)) := ⟨B.exec, B.bytes, B.returns, hml, findClass_of_methodNamed B.named, fun w h => atoms_spec (ws := (.code yX2_canBeTold cX2_canBeTold 4 (some .boolean) :: wd)) B.pre w (List.mem_cons_of_mem _ h), B.notSynchronized, hK, hR, fun _ _ _ h => h⟩
  have hl := lv_entry ([.ref (qA 0), .ref (qB 0)]) (n := 4) (Nat.le_of_ble_eq_true rfl)
  rw [lg_entry_eq]
  generalize (lg_sl ([.ref (qA 0), .ref (qB 0)]) ++ List.replicate (4 - (lg_sl ([.ref (qA 0), .ref (qB 0)])).length) Slot.unset).toArray = ls at hl ⊢
  have hl : lv_has ls 4 [(0, .ref (qA 0)), (1, .ref (qB 0))] := hl
  exact b_X2_canBeTold_0 qA nA qB nB  zA zB C0  ls hl hf
theorem cw_X2_canBeTold {R : Room} {s : State} {args : Array Value} {own : String} {index : Nat} (ht : ∀ w ∈ wd, w.before args s = true) (hlink : Cond.methodLink own index yX2_canBeTold ∈ wd) (hR : rm_X2_canBeTold.frames + 1 ≤ R.frames ∧ 8 + (4 + 11) + rm_X2_canBeTold.locals ≤ R.locals) : CallB R s args own index yX2_canBeTold cX2_canBeTold 4 (some .boolean) (.code yX2_canBeTold cX2_canBeTold 4 (some .boolean) :: wd) rm_X2_canBeTold 0 0 2 ∧ (Cond.static yX2_canBeTold).before args s = true := cwS9 2 ht wi_560 wi_559 wi_67 hlink (by decide +kernel) rfl rfl hR
def rm_X2_putWaves : Room := { frames := 4, cells := 0, slots := 0, locals := 118 }
def f_X2_putWaves_178 (nS : Nat) (nA : Nat) (nB : Nat) (zA : SumS) (zB : SumS) (zS : SumS) (x11 : Int64) (v1 : Int32) (v2 : Int32) (v3 : Int32) (v4 : Int64) : Option (SumS) := (f_X4_put nS zS v1 v2 v3 v4 x11).bind fun r_1 => some r_1
set_option maxHeartbeats 4000000 in
set_option maxRecDepth 100000 in
theorem b_X2_putWaves_178 {p : Program} {l : Launch} {e : Env} {s : State} {m : MethodId} {args : Array Value} {below : List Frame} {meth : Method} {c : Code} {G : va_G} {cA : Nat → ClassId} {W9 : va_W} (qS : Nat → Nat) (nS : Nat) (qA : Nat → Nat) (nA : Nat) (qB : Nat → Nat) (nB : Nat) (zA : SumS) (zB : SumS) (C0 : Amb p s m args meth c cX2_putWaves RX2 15 none G cA (adr W9) ((wSum cA qA nA zA) ++ (wSum cA qB nB zB))) {res : SumS} : ∀ (zS : SumS) (x11 : Int64) (v1 : Int32) (v2 : Int32) (v3 : Int32) (v4 : Int64) (H : Heap) (locs : List Loc) (ls : Array Slot), va_P G vwCl ((wSum cA qS nS zS)) H → va_D (adr W9) ((wSum cA qS nS zS)) → va_S (adr W9) s.heap H locs → lv_has ls 15 [(11, .long x11)] → f_X2_putWaves_178 nS nA nB zA zB zS x11 v1 v2 v3 v4 = some res → W p l e rm_X2_putWaves s m args below meth c H locs 0 0 (MQ below (qWv G W9 ((wSum cA qS nS res))) args s 0 0 (adr W9)) (F0 m 178 ls [.long v4, .int v3, .int v2, .int v1, .ref (qS 0)]) := by
  obtain ⟨hx, hb, hr, hml, hown, hts, hlocks, hK, hR, hRA⟩ := id C0
  intro zS x11 v1 v2 v3 v4 H locs ls hP hD hS hl hf
  unfold f_X2_putWaves_178 at hf
  refine lv_lload hx hb dX2_putWaves_178 (lv_at hl 0 rfl) ?_
  obtain ⟨r_1, hr_1, hf⟩ := obd hf
  refine cWvV (As := [.int v1, .int v2, .int v3, .long v4, .long x11]) (rest := []) (W1 := ((wSum cA qS nS r_1))) ⟨hx, hb, hml, hown, hts⟩ (m_X4_put l G cA qS nS zS v1 v2 v3 v4 x11 r_1 hr_1) (cw_X4_put hts wi_580 ⟨Nat.le_of_ble_eq_true rfl, Nat.le_of_ble_eq_true rfl⟩) hK hP hD hS [0, 1, 2, 3] [4, 5, 6, 7] rfl rfl rfl (by decide) rfl va_Pnil dj_nil (va_recv hK.1 hP (ci := 2) (q0 := 0) rfl rfl) rfl hl.1 rfl (Nat.le_of_ble_eq_true rfl) dX2_putWaves_180 ⟨Nat.zero_le _, Nat.zero_le _⟩ (fun H locs hP hD hS => ?_)
  cases hf
  exact W.vret hx hb hr (fun t ht hW => ⟨⟨(), rfl, trivial, toT ht hP⟩, hS.F ht⟩) hS.2.2 dX2_putWaves_183 hlocks
def f_X2_putWaves_143 (nS : Nat) (nA : Nat) (nB : Nat) (zA : SumS) (zB : SumS) (zS : SumS) (x2 : Int32) (x4 : Int32) (x7 : Int32) (x8 : Int32) (x9 : Int64) (x11 : Int64) (x14 : Int32) (v1 : Int32) (v2 : Int32) (v3 : Int32) (v4 : Int64) : Option (SumS) := (f_X4_put nS zS v1 v2 v3 v4 x11).bind fun r_1 => (f_X4_argumentAt nA zA x2).bind fun r_2 => (f_X4_argumentAt nB zB x4).bind fun r_3 => if x14 = 0 then f_X2_putWaves_178 nS nA nB zA zB r_1 x11 x7 (r_2 - r_3) x8 x9 else f_X2_putWaves_178 nS nA nB zA zB r_1 x11 x7 (r_2 - r_3) x8 (-x9)
set_option maxHeartbeats 4000000 in
set_option maxRecDepth 100000 in
theorem b_X2_putWaves_143 {p : Program} {l : Launch} {e : Env} {s : State} {m : MethodId} {args : Array Value} {below : List Frame} {meth : Method} {c : Code} {G : va_G} {cA : Nat → ClassId} {W9 : va_W} (qS : Nat → Nat) (nS : Nat) (qA : Nat → Nat) (nA : Nat) (qB : Nat → Nat) (nB : Nat) (zA : SumS) (zB : SumS) (C0 : Amb p s m args meth c cX2_putWaves RX2 15 none G cA (adr W9) ((wSum cA qA nA zA) ++ (wSum cA qB nB zB))) {res : SumS} : ∀ (zS : SumS) (x2 : Int32) (x4 : Int32) (x7 : Int32) (x8 : Int32) (x9 : Int64) (x11 : Int64) (x14 : Int32) (v1 : Int32) (v2 : Int32) (v3 : Int32) (v4 : Int64) (H : Heap) (locs : List Loc) (ls : Array Slot), va_P G vwCl ((wSum cA qS nS zS)) H → va_D (adr W9) ((wSum cA qS nS zS)) → va_S (adr W9) s.heap H locs → lv_has ls 15 [(0, .ref (qS 0)), (1, .ref (qA 0)), (2, .int x2), (3, .ref (qB 0)), (4, .int x4), (7, .int x7), (8, .int x8), (9, .long x9), (11, .long x11), (14, .int x14)] → f_X2_putWaves_143 nS nA nB zA zB zS x2 x4 x7 x8 x9 x11 x14 v1 v2 v3 v4 = some res → W p l e rm_X2_putWaves s m args below meth c H locs 0 0 (MQ below (qWv G W9 ((wSum cA qS nS res))) args s 0 0 (adr W9)) (F0 m 143 ls [.long v4, .int v3, .int v2, .int v1, .ref (qS 0)]) := by
  obtain ⟨hx, hb, hr, hml, hown, hts, hlocks, hK, hR, hRA⟩ := id C0
  intro zS x2 x4 x7 x8 x9 x11 x14 v1 v2 v3 v4 H locs ls hP hD hS hl hf
  unfold f_X2_putWaves_143 at hf
  refine lv_lload hx hb dX2_putWaves_143 (lv_at hl 8 rfl) ?_
  obtain ⟨r_1, hr_1, hf⟩ := obd hf
  refine cWvV (As := [.int v1, .int v2, .int v3, .long v4, .long x11]) (rest := []) (W1 := ((wSum cA qS nS r_1))) ⟨hx, hb, hml, hown, hts⟩ (m_X4_put l G cA qS nS zS v1 v2 v3 v4 x11 r_1 hr_1) (cw_X4_put hts wi_580 ⟨Nat.le_of_ble_eq_true rfl, Nat.le_of_ble_eq_true rfl⟩) hK hP hD hS [0, 1, 2, 3] [4, 5, 6, 7] rfl rfl rfl (by decide) rfl va_Pnil dj_nil (va_recv hK.1 hP (ci := 2) (q0 := 0) rfl rfl) rfl hl.1 rfl (Nat.le_of_ble_eq_true rfl) dX2_putWaves_145 ⟨Nat.zero_le _, Nat.zero_le _⟩ (fun H locs hP hD hS => ?_)
  refine lv_aload_n hx hb dX2_putWaves_148 rfl (lv_at hl 0 rfl) ?_
  refine lv_iload hx hb dX2_putWaves_149 (lv_at hl 5 rfl) ?_
  refine lv_aload_n hx hb dX2_putWaves_151 rfl (lv_at hl 1 rfl) ?_
  refine lv_iload_n hx hb dX2_putWaves_152 rfl (lv_at hl 2 rfl) ?_
  obtain ⟨r_2, hr_2, hf⟩ := obd hf
  refine cRiV (As := [.int x2]) (rest := [.int x7, .ref (qS 0)]) ⟨hx, hb, hml, hown, hts⟩ (m_X4_argumentAt l G cA qA nA zA x2 r_2 hr_2) (cw_X4_argumentAt hts wi_579 ⟨Nat.le_of_ble_eq_true rfl, Nat.le_of_ble_eq_true rfl⟩) hK (pk (roP hR hRA hS) [0, 1, 2, 3] rfl) (va_recv hK.1 (roP hR hRA hS) (ci := 2) (q0 := 0) rfl rfl) rfl hl.1 rfl (Nat.le_of_ble_eq_true rfl) dX2_putWaves_153 ⟨Nat.zero_le _, Nat.zero_le _⟩ ?_
  refine lv_aload_n hx hb dX2_putWaves_156 rfl (lv_at hl 3 rfl) ?_
  refine lv_iload hx hb dX2_putWaves_157 (lv_at hl 4 rfl) ?_
  obtain ⟨r_3, hr_3, hf⟩ := obd hf
  refine cRiV (As := [.int x4]) (rest := [.int r_2, .int x7, .ref (qS 0)]) ⟨hx, hb, hml, hown, hts⟩ (m_X4_argumentAt l G cA qB nB zB x4 r_3 hr_3) (cw_X4_argumentAt hts wi_579 ⟨Nat.le_of_ble_eq_true rfl, Nat.le_of_ble_eq_true rfl⟩) hK (pk (roP hR hRA hS) [4, 5, 6, 7] rfl) (va_recv hK.1 (roP hR hRA hS) (ci := 2) (q0 := 4) rfl rfl) rfl hl.1 rfl (Nat.le_of_ble_eq_true rfl) dX2_putWaves_159 ⟨Nat.zero_le _, Nat.zero_le _⟩ ?_
  refine lv_isub hx hb dX2_putWaves_162 ?_
  refine lv_iload hx hb dX2_putWaves_163 (lv_at hl 6 rfl) ?_
  refine lv_iload hx hb dX2_putWaves_165 (lv_at hl 9 rfl) ?_
  refine lv_if_eq (tgt := 176) hx hb dX2_putWaves_167 (by decide) (fun c_4 => ?_) (fun c_4 => ?_)
  · rw [if_pos (c_4)] at hf
    refine lv_lload hx hb dX2_putWaves_176 (lv_at hl 7 rfl) ?_
    exact b_X2_putWaves_178 qS nS qA nA qB nB  zA zB C0  r_1 x11 x7 (r_2 - r_3) x8 x9 H locs ls hP hD hS (lv_sub hl [8] rfl) hf
  · rw [if_neg (c_4)] at hf
    refine lv_lload hx hb dX2_putWaves_170 (lv_at hl 7 rfl) ?_
    refine lv_lneg hx hb dX2_putWaves_172 ?_
    refine lv_goto (tgt := 178) hx hb dX2_putWaves_173 (by decide) ?_
    exact b_X2_putWaves_178 qS nS qA nA qB nB  zA zB C0  r_1 x11 x7 (r_2 - r_3) x8 (-x9) H locs ls hP hD hS (lv_sub hl [8] rfl) hf
def f_X2_putWaves_111 (nS : Nat) (nA : Nat) (nB : Nat) (zA : SumS) (zB : SumS) (zS : SumS) (x2 : Int32) (x4 : Int32) (x7 : Int32) (x8 : Int32) (x9 : Int64) (x11 : Int64) (x13 : Int32) (v0 : Int32) : Option (SumS) := (f_X4_argumentAt nA zA x2).bind fun r_1 => (f_X4_argumentAt nB zB x4).bind fun r_2 => if x13 = 0 then f_X2_putWaves_143 nS nA nB zA zB zS x2 x4 x7 x8 x9 x11 v0 x7 (r_1 + r_2) x8 x9 else f_X2_putWaves_143 nS nA nB zA zB zS x2 x4 x7 x8 x9 x11 v0 x7 (r_1 + r_2) x8 (-x9)
set_option maxHeartbeats 4000000 in
set_option maxRecDepth 100000 in
theorem b_X2_putWaves_111 {p : Program} {l : Launch} {e : Env} {s : State} {m : MethodId} {args : Array Value} {below : List Frame} {meth : Method} {c : Code} {G : va_G} {cA : Nat → ClassId} {W9 : va_W} (qS : Nat → Nat) (nS : Nat) (qA : Nat → Nat) (nA : Nat) (qB : Nat → Nat) (nB : Nat) (zA : SumS) (zB : SumS) (C0 : Amb p s m args meth c cX2_putWaves RX2 15 none G cA (adr W9) ((wSum cA qA nA zA) ++ (wSum cA qB nB zB))) {res : SumS} : ∀ (zS : SumS) (x2 : Int32) (x4 : Int32) (x7 : Int32) (x8 : Int32) (x9 : Int64) (x11 : Int64) (x13 : Int32) (v0 : Int32) (H : Heap) (locs : List Loc) (ls : Array Slot), va_P G vwCl ((wSum cA qS nS zS)) H → va_D (adr W9) ((wSum cA qS nS zS)) → va_S (adr W9) s.heap H locs → lv_has ls 15 [(0, .ref (qS 0)), (1, .ref (qA 0)), (2, .int x2), (3, .ref (qB 0)), (4, .int x4), (7, .int x7), (8, .int x8), (9, .long x9), (11, .long x11), (13, .int x13)] → f_X2_putWaves_111 nS nA nB zA zB zS x2 x4 x7 x8 x9 x11 x13 v0 = some res → W p l e rm_X2_putWaves s m args below meth c H locs 0 0 (MQ below (qWv G W9 ((wSum cA qS nS res))) args s 0 0 (adr W9)) (F0 m 111 ls [.int v0]) := by
  obtain ⟨hx, hb, hr, hml, hown, hts, hlocks, hK, hR, hRA⟩ := id C0
  intro zS x2 x4 x7 x8 x9 x11 x13 v0 H locs ls hP hD hS hl hf
  unfold f_X2_putWaves_111 at hf
  refine lv_istore (lv' := [(14, .int v0), (0, .ref (qS 0)), (1, .ref (qA 0)), (2, .int x2), (3, .ref (qB 0)), (4, .int x4), (7, .int x7), (8, .int x8), (9, .long x9), (11, .long x11), (13, .int x13)]) hx hb dX2_putWaves_111 hl (by decide) rfl (fun ls hl => ?_)
  refine lv_aload_n hx hb dX2_putWaves_113 rfl (lv_at hl 1 rfl) ?_
  refine lv_iload hx hb dX2_putWaves_114 (lv_at hl 6 rfl) ?_
  refine lv_aload_n hx hb dX2_putWaves_116 rfl (lv_at hl 2 rfl) ?_
  refine lv_iload_n hx hb dX2_putWaves_117 rfl (lv_at hl 3 rfl) ?_
  obtain ⟨r_1, hr_1, hf⟩ := obd hf
  refine cRiV (As := [.int x2]) (rest := [.int x7, .ref (qS 0)]) ⟨hx, hb, hml, hown, hts⟩ (m_X4_argumentAt l G cA qA nA zA x2 r_1 hr_1) (cw_X4_argumentAt hts wi_579 ⟨Nat.le_of_ble_eq_true rfl, Nat.le_of_ble_eq_true rfl⟩) hK (pk (roP hR hRA hS) [0, 1, 2, 3] rfl) (va_recv hK.1 (roP hR hRA hS) (ci := 2) (q0 := 0) rfl rfl) rfl hl.1 rfl (Nat.le_of_ble_eq_true rfl) dX2_putWaves_118 ⟨Nat.zero_le _, Nat.zero_le _⟩ ?_
  refine lv_aload_n hx hb dX2_putWaves_121 rfl (lv_at hl 4 rfl) ?_
  refine lv_iload hx hb dX2_putWaves_122 (lv_at hl 5 rfl) ?_
  obtain ⟨r_2, hr_2, hf⟩ := obd hf
  refine cRiV (As := [.int x4]) (rest := [.int r_1, .int x7, .ref (qS 0)]) ⟨hx, hb, hml, hown, hts⟩ (m_X4_argumentAt l G cA qB nB zB x4 r_2 hr_2) (cw_X4_argumentAt hts wi_579 ⟨Nat.le_of_ble_eq_true rfl, Nat.le_of_ble_eq_true rfl⟩) hK (pk (roP hR hRA hS) [4, 5, 6, 7] rfl) (va_recv hK.1 (roP hR hRA hS) (ci := 2) (q0 := 4) rfl rfl) rfl hl.1 rfl (Nat.le_of_ble_eq_true rfl) dX2_putWaves_124 ⟨Nat.zero_le _, Nat.zero_le _⟩ ?_
  refine lv_iadd hx hb dX2_putWaves_127 ?_
  refine lv_iload hx hb dX2_putWaves_128 (lv_at hl 7 rfl) ?_
  refine lv_iload hx hb dX2_putWaves_130 (lv_at hl 10 rfl) ?_
  refine lv_if_eq (tgt := 141) hx hb dX2_putWaves_132 (by decide) (fun c_3 => ?_) (fun c_3 => ?_)
  · rw [if_pos (c_3)] at hf
    refine lv_lload hx hb dX2_putWaves_141 (lv_at hl 8 rfl) ?_
    exact b_X2_putWaves_143 qS nS qA nA qB nB  zA zB C0  zS x2 x4 x7 x8 x9 x11 v0 x7 (r_1 + r_2) x8 x9 H locs ls hP hD hS (lv_sub hl [1, 2, 3, 4, 5, 6, 7, 8, 9, 0] rfl) hf
  · rw [if_neg (c_3)] at hf
    refine lv_lload hx hb dX2_putWaves_135 (lv_at hl 8 rfl) ?_
    refine lv_lneg hx hb dX2_putWaves_137 ?_
    refine lv_goto (tgt := 143) hx hb dX2_putWaves_138 (by decide) ?_
    exact b_X2_putWaves_143 qS nS qA nA qB nB  zA zB C0  zS x2 x4 x7 x8 x9 x11 v0 x7 (r_1 + r_2) x8 (-x9) H locs ls hP hD hS (lv_sub hl [1, 2, 3, 4, 5, 6, 7, 8, 9, 0] rfl) hf
def f_X2_putWaves_110 (nS : Nat) (nA : Nat) (nB : Nat) (zA : SumS) (zB : SumS) (zS : SumS) (x2 : Int32) (x4 : Int32) (x7 : Int32) (x8 : Int32) (x9 : Int64) (x11 : Int64) (x13 : Int32) : Option (SumS) := f_X2_putWaves_111 nS nA nB zA zB zS x2 x4 x7 x8 x9 x11 x13 (0 : Int32)
set_option maxHeartbeats 4000000 in
set_option maxRecDepth 100000 in
theorem b_X2_putWaves_110 {p : Program} {l : Launch} {e : Env} {s : State} {m : MethodId} {args : Array Value} {below : List Frame} {meth : Method} {c : Code} {G : va_G} {cA : Nat → ClassId} {W9 : va_W} (qS : Nat → Nat) (nS : Nat) (qA : Nat → Nat) (nA : Nat) (qB : Nat → Nat) (nB : Nat) (zA : SumS) (zB : SumS) (C0 : Amb p s m args meth c cX2_putWaves RX2 15 none G cA (adr W9) ((wSum cA qA nA zA) ++ (wSum cA qB nB zB))) {res : SumS} : ∀ (zS : SumS) (x2 : Int32) (x4 : Int32) (x7 : Int32) (x8 : Int32) (x9 : Int64) (x11 : Int64) (x13 : Int32) (H : Heap) (locs : List Loc) (ls : Array Slot), va_P G vwCl ((wSum cA qS nS zS)) H → va_D (adr W9) ((wSum cA qS nS zS)) → va_S (adr W9) s.heap H locs → lv_has ls 15 [(0, .ref (qS 0)), (1, .ref (qA 0)), (2, .int x2), (3, .ref (qB 0)), (4, .int x4), (7, .int x7), (8, .int x8), (9, .long x9), (11, .long x11), (13, .int x13)] → f_X2_putWaves_110 nS nA nB zA zB zS x2 x4 x7 x8 x9 x11 x13 = some res → W p l e rm_X2_putWaves s m args below meth c H locs 0 0 (MQ below (qWv G W9 ((wSum cA qS nS res))) args s 0 0 (adr W9)) (F0 m 110 ls []) := by
  obtain ⟨hx, hb, hr, hml, hown, hts, hlocks, hK, hR, hRA⟩ := id C0
  intro zS x2 x4 x7 x8 x9 x11 x13 H locs ls hP hD hS hl hf
  unfold f_X2_putWaves_110 at hf
  refine lv_iconst (v := 0) hx hb dX2_putWaves_110 (by decide) ?_
  exact b_X2_putWaves_111 qS nS qA nA qB nB  zA zB C0  zS x2 x4 x7 x8 x9 x11 x13 (0 : Int32) H locs ls hP hD hS (lv_sub hl [0, 1, 2, 3, 4, 5, 6, 7, 8, 9] rfl) hf
def f_X2_putWaves_92 (nS : Nat) (nA : Nat) (nB : Nat) (zA : SumS) (zB : SumS) (zS : SumS) (x2 : Int32) (x4 : Int32) (x5 : Int32) (x6 : Int32) (x7 : Int32) (x8 : Int32) (x9 : Int64) (x11 : Int64) (v0 : Int32) : Option (SumS) := if ¬ x5 = (4 : Int32) then f_X2_putWaves_110 nS nA nB zA zB zS x2 x4 x7 x8 x9 x11 v0 else if ¬ x6 = (3 : Int32) then f_X2_putWaves_110 nS nA nB zA zB zS x2 x4 x7 x8 x9 x11 v0 else f_X2_putWaves_111 nS nA nB zA zB zS x2 x4 x7 x8 x9 x11 v0 (1 : Int32)
set_option maxHeartbeats 4000000 in
set_option maxRecDepth 100000 in
theorem b_X2_putWaves_92 {p : Program} {l : Launch} {e : Env} {s : State} {m : MethodId} {args : Array Value} {below : List Frame} {meth : Method} {c : Code} {G : va_G} {cA : Nat → ClassId} {W9 : va_W} (qS : Nat → Nat) (nS : Nat) (qA : Nat → Nat) (nA : Nat) (qB : Nat → Nat) (nB : Nat) (zA : SumS) (zB : SumS) (C0 : Amb p s m args meth c cX2_putWaves RX2 15 none G cA (adr W9) ((wSum cA qA nA zA) ++ (wSum cA qB nB zB))) {res : SumS} : ∀ (zS : SumS) (x2 : Int32) (x4 : Int32) (x5 : Int32) (x6 : Int32) (x7 : Int32) (x8 : Int32) (x9 : Int64) (x11 : Int64) (v0 : Int32) (H : Heap) (locs : List Loc) (ls : Array Slot), va_P G vwCl ((wSum cA qS nS zS)) H → va_D (adr W9) ((wSum cA qS nS zS)) → va_S (adr W9) s.heap H locs → lv_has ls 15 [(0, .ref (qS 0)), (1, .ref (qA 0)), (2, .int x2), (3, .ref (qB 0)), (4, .int x4), (5, .int x5), (6, .int x6), (7, .int x7), (8, .int x8), (9, .long x9), (11, .long x11)] → f_X2_putWaves_92 nS nA nB zA zB zS x2 x4 x5 x6 x7 x8 x9 x11 v0 = some res → W p l e rm_X2_putWaves s m args below meth c H locs 0 0 (MQ below (qWv G W9 ((wSum cA qS nS res))) args s 0 0 (adr W9)) (F0 m 92 ls [.int v0]) := by
  obtain ⟨hx, hb, hr, hml, hown, hts, hlocks, hK, hR, hRA⟩ := id C0
  intro zS x2 x4 x5 x6 x7 x8 x9 x11 v0 H locs ls hP hD hS hl hf
  unfold f_X2_putWaves_92 at hf
  refine lv_istore (lv' := [(13, .int v0), (0, .ref (qS 0)), (1, .ref (qA 0)), (2, .int x2), (3, .ref (qB 0)), (4, .int x4), (5, .int x5), (6, .int x6), (7, .int x7), (8, .int x8), (9, .long x9), (11, .long x11)]) hx hb dX2_putWaves_92 hl (by decide) rfl (fun ls hl => ?_)
  refine lv_iload hx hb dX2_putWaves_94 (lv_at hl 6 rfl) ?_
  refine lv_iconst (v := 4) hx hb dX2_putWaves_96 (by decide) ?_
  refine lv_icmp_ne (tgt := 110) hx hb dX2_putWaves_97 (by decide) (fun c_1 => ?_) (fun c_1 => ?_)
  · rw [if_pos (c_1)] at hf
    exact b_X2_putWaves_110 qS nS qA nA qB nB  zA zB C0  zS x2 x4 x7 x8 x9 x11 v0 H locs ls hP hD hS (lv_sub hl [1, 2, 3, 4, 5, 8, 9, 10, 11, 0] rfl) hf
  · rw [if_neg (not_not_intro c_1)] at hf
    refine lv_iload hx hb dX2_putWaves_100 (lv_at hl 7 rfl) ?_
    refine lv_iconst (v := 3) hx hb dX2_putWaves_102 (by decide) ?_
    refine lv_icmp_ne (tgt := 110) hx hb dX2_putWaves_103 (by decide) (fun c_2 => ?_) (fun c_2 => ?_)
    · rw [if_pos (c_2)] at hf
      exact b_X2_putWaves_110 qS nS qA nA qB nB  zA zB C0  zS x2 x4 x7 x8 x9 x11 v0 H locs ls hP hD hS (lv_sub hl [1, 2, 3, 4, 5, 8, 9, 10, 11, 0] rfl) hf
    · rw [if_neg (not_not_intro c_2)] at hf
      refine lv_iconst (v := 1) hx hb dX2_putWaves_106 (by decide) ?_
      refine lv_goto (tgt := 111) hx hb dX2_putWaves_107 (by decide) ?_
      exact b_X2_putWaves_111 qS nS qA nA qB nB  zA zB C0  zS x2 x4 x7 x8 x9 x11 v0 (1 : Int32) H locs ls hP hD hS (lv_sub hl [1, 2, 3, 4, 5, 8, 9, 10, 11, 0] rfl) hf
def f_X2_putWaves_91 (nS : Nat) (nA : Nat) (nB : Nat) (zA : SumS) (zB : SumS) (zS : SumS) (x2 : Int32) (x4 : Int32) (x5 : Int32) (x6 : Int32) (x7 : Int32) (x8 : Int32) (x9 : Int64) (x11 : Int64) : Option (SumS) := f_X2_putWaves_92 nS nA nB zA zB zS x2 x4 x5 x6 x7 x8 x9 x11 (0 : Int32)
set_option maxHeartbeats 4000000 in
set_option maxRecDepth 100000 in
theorem b_X2_putWaves_91 {p : Program} {l : Launch} {e : Env} {s : State} {m : MethodId} {args : Array Value} {below : List Frame} {meth : Method} {c : Code} {G : va_G} {cA : Nat → ClassId} {W9 : va_W} (qS : Nat → Nat) (nS : Nat) (qA : Nat → Nat) (nA : Nat) (qB : Nat → Nat) (nB : Nat) (zA : SumS) (zB : SumS) (C0 : Amb p s m args meth c cX2_putWaves RX2 15 none G cA (adr W9) ((wSum cA qA nA zA) ++ (wSum cA qB nB zB))) {res : SumS} : ∀ (zS : SumS) (x2 : Int32) (x4 : Int32) (x5 : Int32) (x6 : Int32) (x7 : Int32) (x8 : Int32) (x9 : Int64) (x11 : Int64) (H : Heap) (locs : List Loc) (ls : Array Slot), va_P G vwCl ((wSum cA qS nS zS)) H → va_D (adr W9) ((wSum cA qS nS zS)) → va_S (adr W9) s.heap H locs → lv_has ls 15 [(0, .ref (qS 0)), (1, .ref (qA 0)), (2, .int x2), (3, .ref (qB 0)), (4, .int x4), (5, .int x5), (6, .int x6), (7, .int x7), (8, .int x8), (9, .long x9), (11, .long x11)] → f_X2_putWaves_91 nS nA nB zA zB zS x2 x4 x5 x6 x7 x8 x9 x11 = some res → W p l e rm_X2_putWaves s m args below meth c H locs 0 0 (MQ below (qWv G W9 ((wSum cA qS nS res))) args s 0 0 (adr W9)) (F0 m 91 ls []) := by
  obtain ⟨hx, hb, hr, hml, hown, hts, hlocks, hK, hR, hRA⟩ := id C0
  intro zS x2 x4 x5 x6 x7 x8 x9 x11 H locs ls hP hD hS hl hf
  unfold f_X2_putWaves_91 at hf
  refine lv_iconst (v := 0) hx hb dX2_putWaves_91 (by decide) ?_
  exact b_X2_putWaves_92 qS nS qA nA qB nB  zA zB C0  zS x2 x4 x5 x6 x7 x8 x9 x11 (0 : Int32) H locs ls hP hD hS (lv_sub hl [0, 1, 2, 3, 4, 5, 6, 7, 8, 9, 10] rfl) hf
def f_X2_putWaves_27 (nS : Nat) (nA : Nat) (nB : Nat) (zA : SumS) (zB : SumS) (zS : SumS) (x2 : Int32) (x4 : Int32) (x5 : Int32) (x6 : Int32) (v0 : Int32) : Option (SumS) := (f_X4_powerAt nA zA x2).bind fun r_1 => (f_X4_powerAt nB zB x4).bind fun r_2 => (some ((r_1 + r_2))).bind fun y_3 => (f_X4_topAt nA zA x2).bind fun r_4 => (f_X4_topAt nB zB x4).bind fun r_5 => (some ((r_4 * r_5))).bind fun y_6 => (f_X4_bottomAt nA zA x2).bind fun r_7 => (f_X4_bottomAt nB zB x4).bind fun r_8 => (some ((((2 : Int64) * r_7) * r_8))).bind fun y_9 => if ¬ x5 = (3 : Int32) then f_X2_putWaves_91 nS nA nB zA zB zS x2 x4 x5 x6 v0 y_3 y_6 y_9 else if ¬ x6 = (3 : Int32) then f_X2_putWaves_91 nS nA nB zA zB zS x2 x4 x5 x6 v0 y_3 y_6 y_9 else f_X2_putWaves_92 nS nA nB zA zB zS x2 x4 x5 x6 v0 y_3 y_6 y_9 (1 : Int32)
set_option maxHeartbeats 4000000 in
set_option maxRecDepth 100000 in
theorem b_X2_putWaves_27 {p : Program} {l : Launch} {e : Env} {s : State} {m : MethodId} {args : Array Value} {below : List Frame} {meth : Method} {c : Code} {G : va_G} {cA : Nat → ClassId} {W9 : va_W} (qS : Nat → Nat) (nS : Nat) (qA : Nat → Nat) (nA : Nat) (qB : Nat → Nat) (nB : Nat) (zA : SumS) (zB : SumS) (C0 : Amb p s m args meth c cX2_putWaves RX2 15 none G cA (adr W9) ((wSum cA qA nA zA) ++ (wSum cA qB nB zB))) {res : SumS} : ∀ (zS : SumS) (x2 : Int32) (x4 : Int32) (x5 : Int32) (x6 : Int32) (v0 : Int32) (H : Heap) (locs : List Loc) (ls : Array Slot), va_P G vwCl ((wSum cA qS nS zS)) H → va_D (adr W9) ((wSum cA qS nS zS)) → va_S (adr W9) s.heap H locs → lv_has ls 15 [(0, .ref (qS 0)), (1, .ref (qA 0)), (2, .int x2), (3, .ref (qB 0)), (4, .int x4), (5, .int x5), (6, .int x6)] → f_X2_putWaves_27 nS nA nB zA zB zS x2 x4 x5 x6 v0 = some res → W p l e rm_X2_putWaves s m args below meth c H locs 0 0 (MQ below (qWv G W9 ((wSum cA qS nS res))) args s 0 0 (adr W9)) (F0 m 27 ls [.int v0]) := by
  obtain ⟨hx, hb, hr, hml, hown, hts, hlocks, hK, hR, hRA⟩ := id C0
  intro zS x2 x4 x5 x6 v0 H locs ls hP hD hS hl hf
  unfold f_X2_putWaves_27 at hf
  refine lv_istore (lv' := [(7, .int v0), (0, .ref (qS 0)), (1, .ref (qA 0)), (2, .int x2), (3, .ref (qB 0)), (4, .int x4), (5, .int x5), (6, .int x6)]) hx hb dX2_putWaves_27 hl (by decide) rfl (fun ls hl => ?_)
  refine lv_aload_n hx hb dX2_putWaves_29 rfl (lv_at hl 2 rfl) ?_
  refine lv_iload_n hx hb dX2_putWaves_30 rfl (lv_at hl 3 rfl) ?_
  obtain ⟨r_1, hr_1, hf⟩ := obd hf
  refine cRiV (As := [.int x2]) (rest := []) ⟨hx, hb, hml, hown, hts⟩ (m_X4_powerAt l G cA qA nA zA x2 r_1 hr_1) (cw_X4_powerAt hts wi_575 ⟨Nat.le_of_ble_eq_true rfl, Nat.le_of_ble_eq_true rfl⟩) hK (pk (roP hR hRA hS) [0, 1, 2, 3] rfl) (va_recv hK.1 (roP hR hRA hS) (ci := 2) (q0 := 0) rfl rfl) rfl hl.1 rfl (Nat.le_of_ble_eq_true rfl) dX2_putWaves_31 ⟨Nat.zero_le _, Nat.zero_le _⟩ ?_
  refine lv_aload_n hx hb dX2_putWaves_34 rfl (lv_at hl 4 rfl) ?_
  refine lv_iload hx hb dX2_putWaves_35 (lv_at hl 5 rfl) ?_
  obtain ⟨r_2, hr_2, hf⟩ := obd hf
  refine cRiV (As := [.int x4]) (rest := [.int r_1]) ⟨hx, hb, hml, hown, hts⟩ (m_X4_powerAt l G cA qB nB zB x4 r_2 hr_2) (cw_X4_powerAt hts wi_575 ⟨Nat.le_of_ble_eq_true rfl, Nat.le_of_ble_eq_true rfl⟩) hK (pk (roP hR hRA hS) [4, 5, 6, 7] rfl) (va_recv hK.1 (roP hR hRA hS) (ci := 2) (q0 := 4) rfl rfl) rfl hl.1 rfl (Nat.le_of_ble_eq_true rfl) dX2_putWaves_37 ⟨Nat.zero_le _, Nat.zero_le _⟩ ?_
  refine lv_iadd hx hb dX2_putWaves_40 ?_
  obtain ⟨y_3, hq, hf⟩ := obd hf
  have hy_3 : (r_1 + r_2) = y_3 := Option.some.inj hq
  rw [hy_3]
  refine lv_istore (lv' := [(8, .int y_3), (7, .int v0), (0, .ref (qS 0)), (1, .ref (qA 0)), (2, .int x2), (3, .ref (qB 0)), (4, .int x4), (5, .int x5), (6, .int x6)]) hx hb dX2_putWaves_41 hl (by decide) rfl (fun ls hl => ?_)
  refine lv_aload_n hx hb dX2_putWaves_43 rfl (lv_at hl 3 rfl) ?_
  refine lv_iload_n hx hb dX2_putWaves_44 rfl (lv_at hl 4 rfl) ?_
  obtain ⟨r_4, hr_4, hf⟩ := obd hf
  refine cRlV (As := [.int x2]) (rest := []) ⟨hx, hb, hml, hown, hts⟩ (m_X4_topAt l G cA qA nA zA x2 r_4 hr_4) (cw_X4_topAt hts wi_576 ⟨Nat.le_of_ble_eq_true rfl, Nat.le_of_ble_eq_true rfl⟩) hK (pk (roP hR hRA hS) [0, 1, 2, 3] rfl) (va_recv hK.1 (roP hR hRA hS) (ci := 2) (q0 := 0) rfl rfl) rfl hl.1 rfl (Nat.le_of_ble_eq_true rfl) dX2_putWaves_45 ⟨Nat.zero_le _, Nat.zero_le _⟩ ?_
  refine lv_aload_n hx hb dX2_putWaves_48 rfl (lv_at hl 5 rfl) ?_
  refine lv_iload hx hb dX2_putWaves_49 (lv_at hl 6 rfl) ?_
  obtain ⟨r_5, hr_5, hf⟩ := obd hf
  refine cRlV (As := [.int x4]) (rest := [.long r_4]) ⟨hx, hb, hml, hown, hts⟩ (m_X4_topAt l G cA qB nB zB x4 r_5 hr_5) (cw_X4_topAt hts wi_576 ⟨Nat.le_of_ble_eq_true rfl, Nat.le_of_ble_eq_true rfl⟩) hK (pk (roP hR hRA hS) [4, 5, 6, 7] rfl) (va_recv hK.1 (roP hR hRA hS) (ci := 2) (q0 := 4) rfl rfl) rfl hl.1 rfl (Nat.le_of_ble_eq_true rfl) dX2_putWaves_51 ⟨Nat.zero_le _, Nat.zero_le _⟩ ?_
  refine lv_lmul hx hb dX2_putWaves_54 ?_
  obtain ⟨y_6, hq, hf⟩ := obd hf
  have hy_6 : (r_4 * r_5) = y_6 := Option.some.inj hq
  rw [hy_6]
  refine lv_lstore (lv' := [(9, .long y_6), (8, .int y_3), (7, .int v0), (0, .ref (qS 0)), (1, .ref (qA 0)), (2, .int x2), (3, .ref (qB 0)), (4, .int x4), (5, .int x5), (6, .int x6)]) hx hb dX2_putWaves_55 hl (by decide) rfl (fun ls hl => ?_)
  refine lv_ldc2 (v := (2 : Int64)) hx hb hown (hts _ wi_577) dX2_putWaves_57 ?_
  refine lv_aload_n hx hb dX2_putWaves_60 rfl (lv_at hl 4 rfl) ?_
  refine lv_iload_n hx hb dX2_putWaves_61 rfl (lv_at hl 5 rfl) ?_
  obtain ⟨r_7, hr_7, hf⟩ := obd hf
  refine cRlV (As := [.int x2]) (rest := [.long (2 : Int64)]) ⟨hx, hb, hml, hown, hts⟩ (m_X4_bottomAt l G cA qA nA zA x2 r_7 hr_7) (cw_X4_bottomAt hts wi_578 ⟨Nat.le_of_ble_eq_true rfl, Nat.le_of_ble_eq_true rfl⟩) hK (pk (roP hR hRA hS) [0, 1, 2, 3] rfl) (va_recv hK.1 (roP hR hRA hS) (ci := 2) (q0 := 0) rfl rfl) rfl hl.1 rfl (Nat.le_of_ble_eq_true rfl) dX2_putWaves_62 ⟨Nat.zero_le _, Nat.zero_le _⟩ ?_
  refine lv_lmul hx hb dX2_putWaves_65 ?_
  refine lv_aload_n hx hb dX2_putWaves_66 rfl (lv_at hl 6 rfl) ?_
  refine lv_iload hx hb dX2_putWaves_67 (lv_at hl 7 rfl) ?_
  obtain ⟨r_8, hr_8, hf⟩ := obd hf
  refine cRlV (As := [.int x4]) (rest := [.long ((2 : Int64) * r_7)]) ⟨hx, hb, hml, hown, hts⟩ (m_X4_bottomAt l G cA qB nB zB x4 r_8 hr_8) (cw_X4_bottomAt hts wi_578 ⟨Nat.le_of_ble_eq_true rfl, Nat.le_of_ble_eq_true rfl⟩) hK (pk (roP hR hRA hS) [4, 5, 6, 7] rfl) (va_recv hK.1 (roP hR hRA hS) (ci := 2) (q0 := 4) rfl rfl) rfl hl.1 rfl (Nat.le_of_ble_eq_true rfl) dX2_putWaves_69 ⟨Nat.zero_le _, Nat.zero_le _⟩ ?_
  refine lv_lmul hx hb dX2_putWaves_72 ?_
  obtain ⟨y_9, hq, hf⟩ := obd hf
  have hy_9 : (((2 : Int64) * r_7) * r_8) = y_9 := Option.some.inj hq
  rw [hy_9]
  refine lv_lstore (lv' := [(11, .long y_9), (9, .long y_6), (8, .int y_3), (7, .int v0), (0, .ref (qS 0)), (1, .ref (qA 0)), (2, .int x2), (3, .ref (qB 0)), (4, .int x4), (5, .int x5), (6, .int x6)]) hx hb dX2_putWaves_73 hl (by decide) rfl (fun ls hl => ?_)
  refine lv_iload hx hb dX2_putWaves_75 (lv_at hl 9 rfl) ?_
  refine lv_iconst (v := 3) hx hb dX2_putWaves_77 (by decide) ?_
  refine lv_icmp_ne (tgt := 91) hx hb dX2_putWaves_78 (by decide) (fun c_10 => ?_) (fun c_10 => ?_)
  · rw [if_pos (c_10)] at hf
    exact b_X2_putWaves_91 qS nS qA nA qB nB  zA zB C0  zS x2 x4 x5 x6 v0 y_3 y_6 y_9 H locs ls hP hD hS (lv_sub hl [4, 5, 6, 7, 8, 9, 10, 3, 2, 1, 0] rfl) hf
  · rw [if_neg (not_not_intro c_10)] at hf
    refine lv_iload hx hb dX2_putWaves_81 (lv_at hl 10 rfl) ?_
    refine lv_iconst (v := 3) hx hb dX2_putWaves_83 (by decide) ?_
    refine lv_icmp_ne (tgt := 91) hx hb dX2_putWaves_84 (by decide) (fun c_11 => ?_) (fun c_11 => ?_)
    · rw [if_pos (c_11)] at hf
      exact b_X2_putWaves_91 qS nS qA nA qB nB  zA zB C0  zS x2 x4 x5 x6 v0 y_3 y_6 y_9 H locs ls hP hD hS (lv_sub hl [4, 5, 6, 7, 8, 9, 10, 3, 2, 1, 0] rfl) hf
    · rw [if_neg (not_not_intro c_11)] at hf
      refine lv_iconst (v := 1) hx hb dX2_putWaves_87 (by decide) ?_
      refine lv_goto (tgt := 92) hx hb dX2_putWaves_88 (by decide) ?_
      exact b_X2_putWaves_92 qS nS qA nA qB nB  zA zB C0  zS x2 x4 x5 x6 v0 y_3 y_6 y_9 (1 : Int32) H locs ls hP hD hS (lv_sub hl [4, 5, 6, 7, 8, 9, 10, 3, 2, 1, 0] rfl) hf
def f_X2_putWaves (nS : Nat) (nA : Nat) (nB : Nat) (zA : SumS) (zB : SumS) (zS : SumS) (a2 : Int32) (a4 : Int32) : Option (SumS) := (f_X4_kindAt nA zA a2).bind fun r_1 => (f_X4_kindAt nB zB a4).bind fun r_2 => if ¬ r_1 = r_2 then f_X2_putWaves_27 nS nA nB zA zB zS a2 a4 r_1 r_2 (3 : Int32) else f_X2_putWaves_27 nS nA nB zA zB zS a2 a4 r_1 r_2 (4 : Int32)
set_option maxHeartbeats 4000000 in
set_option maxRecDepth 100000 in
theorem b_X2_putWaves_0 {p : Program} {l : Launch} {e : Env} {s : State} {m : MethodId} {args : Array Value} {below : List Frame} {meth : Method} {c : Code} {G : va_G} {cA : Nat → ClassId} {W9 : va_W} (qS : Nat → Nat) (nS : Nat) (qA : Nat → Nat) (nA : Nat) (qB : Nat → Nat) (nB : Nat) (zA : SumS) (zB : SumS) (C0 : Amb p s m args meth c cX2_putWaves RX2 15 none G cA (adr W9) ((wSum cA qA nA zA) ++ (wSum cA qB nB zB))) {res : SumS} : ∀ (zS : SumS) (a2 : Int32) (a4 : Int32) (H : Heap) (locs : List Loc) (ls : Array Slot), va_P G vwCl ((wSum cA qS nS zS)) H → va_D (adr W9) ((wSum cA qS nS zS)) → va_S (adr W9) s.heap H locs → lv_has ls 15 [(0, .ref (qS 0)), (1, .ref (qA 0)), (2, .int a2), (3, .ref (qB 0)), (4, .int a4)] → f_X2_putWaves nS nA nB zA zB zS a2 a4 = some res → W p l e rm_X2_putWaves s m args below meth c H locs 0 0 (MQ below (qWv G W9 ((wSum cA qS nS res))) args s 0 0 (adr W9)) (F0 m 0 ls []) := by
  obtain ⟨hx, hb, hr, hml, hown, hts, hlocks, hK, hR, hRA⟩ := id C0
  intro zS a2 a4 H locs ls hP hD hS hl hf
  unfold f_X2_putWaves at hf
  refine lv_aload_n hx hb dX2_putWaves_0 rfl (lv_at hl 1 rfl) ?_
  refine lv_iload_n hx hb dX2_putWaves_1 rfl (lv_at hl 2 rfl) ?_
  obtain ⟨r_1, hr_1, hf⟩ := obd hf
  refine cRiV (As := [.int a2]) (rest := []) ⟨hx, hb, hml, hown, hts⟩ (m_X4_kindAt l G cA qA nA zA a2 r_1 hr_1) (cw_X4_kindAt hts wi_562 ⟨Nat.le_of_ble_eq_true rfl, Nat.le_of_ble_eq_true rfl⟩) hK (pk (roP hR hRA hS) [0, 1, 2, 3] rfl) (va_recv hK.1 (roP hR hRA hS) (ci := 2) (q0 := 0) rfl rfl) rfl hl.1 rfl (Nat.le_of_ble_eq_true rfl) dX2_putWaves_2 ⟨Nat.zero_le _, Nat.zero_le _⟩ ?_
  refine lv_istore (lv' := [(5, .int r_1), (0, .ref (qS 0)), (1, .ref (qA 0)), (2, .int a2), (3, .ref (qB 0)), (4, .int a4)]) hx hb dX2_putWaves_5 hl (by decide) rfl (fun ls hl => ?_)
  refine lv_aload_n hx hb dX2_putWaves_7 rfl (lv_at hl 4 rfl) ?_
  refine lv_iload hx hb dX2_putWaves_8 (lv_at hl 5 rfl) ?_
  obtain ⟨r_2, hr_2, hf⟩ := obd hf
  refine cRiV (As := [.int a4]) (rest := []) ⟨hx, hb, hml, hown, hts⟩ (m_X4_kindAt l G cA qB nB zB a4 r_2 hr_2) (cw_X4_kindAt hts wi_562 ⟨Nat.le_of_ble_eq_true rfl, Nat.le_of_ble_eq_true rfl⟩) hK (pk (roP hR hRA hS) [4, 5, 6, 7] rfl) (va_recv hK.1 (roP hR hRA hS) (ci := 2) (q0 := 4) rfl rfl) rfl hl.1 rfl (Nat.le_of_ble_eq_true rfl) dX2_putWaves_10 ⟨Nat.zero_le _, Nat.zero_le _⟩ ?_
  refine lv_istore (lv' := [(6, .int r_2), (5, .int r_1), (0, .ref (qS 0)), (1, .ref (qA 0)), (2, .int a2), (3, .ref (qB 0)), (4, .int a4)]) hx hb dX2_putWaves_13 hl (by decide) rfl (fun ls hl => ?_)
  refine lv_iload hx hb dX2_putWaves_15 (lv_at hl 1 rfl) ?_
  refine lv_iload hx hb dX2_putWaves_17 (lv_at hl 0 rfl) ?_
  refine lv_icmp_ne (tgt := 26) hx hb dX2_putWaves_19 (by decide) (fun c_3 => ?_) (fun c_3 => ?_)
  · rw [if_pos (c_3)] at hf
    refine lv_iconst (v := 3) hx hb dX2_putWaves_26 (by decide) ?_
    exact b_X2_putWaves_27 qS nS qA nA qB nB  zA zB C0  zS a2 a4 r_1 r_2 (3 : Int32) H locs ls hP hD hS (lv_sub hl [2, 3, 4, 5, 6, 1, 0] rfl) hf
  · rw [if_neg (not_not_intro c_3)] at hf
    refine lv_iconst (v := 4) hx hb dX2_putWaves_22 (by decide) ?_
    refine lv_goto (tgt := 27) hx hb dX2_putWaves_23 (by decide) ?_
    exact b_X2_putWaves_27 qS nS qA nA qB nB  zA zB C0  zS a2 a4 r_1 r_2 (4 : Int32) H locs ls hP hD hS (lv_sub hl [2, 3, 4, 5, 6, 1, 0] rfl) hf

set_option maxRecDepth 100000 in
theorem m_X2_putWaves (l : Launch) (G : va_G) (cA : Nat → ClassId) (qS : Nat → Nat) (nS : Nat) (qA : Nat → Nat) (nA : Nat) (qB : Nat → Nat) (nB : Nat) (zA : SumS) (zB : SumS) (zS : SumS) (a2 : Int32) (a4 : Int32) (res : SumS) (hf : f_X2_putWaves nS nA nB zA zB zS a2 a4 = some res) : MWv l yX2_putWaves (.code yX2_putWaves cX2_putWaves 15 none :: wd) rm_X2_putWaves G cA [.ref (qS 0), .ref (qA 0), .int a2, .ref (qB 0), .int a4] ((wSum cA qS nS zS)) ((wSum cA qA nA zA) ++ (wSum cA qB nB zB)) ((wSum cA qS nS res)) := by
  refine Met.ofW (cc := cX2_putWaves) (maxL := 15) (ret := none) (by decide) rfl ?_
  intro p e s m args below meth c s₁ B hml hv
  obtain ⟨rfl, hK, hP, hD0, hR, hRA⟩ := hv
  have C0 : Amb p s m ([.ref (qS 0), .ref (qA 0), .int a2, .ref (qB 0), .int a4] : List Value).toArray meth c cX2_putWaves RX2 15 none G cA (adr ((wSum cA qS nS zS))) ((wSum cA qA nA zA) ++ (wSum cA qB nB zB)) := ⟨B.exec, B.bytes, B.returns, hml, findClass_of_methodNamed B.named, fun w h => atoms_spec (ws := (.code yX2_putWaves cX2_putWaves 15 none :: wd)) B.pre w (List.mem_cons_of_mem _ h), B.notSynchronized, hK, hR, hRA⟩
  have hl := lv_entry ([.ref (qS 0), .ref (qA 0), .int a2, .ref (qB 0), .int a4]) (n := 15) (Nat.le_of_ble_eq_true rfl)
  rw [lg_entry_eq]
  generalize (lg_sl ([.ref (qS 0), .ref (qA 0), .int a2, .ref (qB 0), .int a4]) ++ List.replicate (15 - (lg_sl ([.ref (qS 0), .ref (qA 0), .int a2, .ref (qB 0), .int a4])).length) Slot.unset).toArray = ls at hl ⊢
  have hl : lv_has ls 15 [(0, .ref (qS 0)), (1, .ref (qA 0)), (2, .int a2), (3, .ref (qB 0)), (4, .int a4)] := hl
  exact b_X2_putWaves_0 (W9 := ((wSum cA qS nS zS))) qS nS qA nA qB nB  zA zB C0 zS a2 a4 s.heap [] ls hP (adr.self hD0) va_S.rf hl hf
theorem cw_X2_putWaves {R : Room} {s : State} {args : Array Value} {own : String} {index : Nat} (ht : ∀ w ∈ wd, w.before args s = true) (hlink : Cond.methodLink own index yX2_putWaves ∈ wd) (hR : rm_X2_putWaves.frames + 1 ≤ R.frames ∧ 8 + (15 + 11) + rm_X2_putWaves.locals ≤ R.locals) : CallB R s args own index yX2_putWaves cX2_putWaves 15 none (.code yX2_putWaves cX2_putWaves 15 none :: wd) rm_X2_putWaves 0 0 5 ∧ (Cond.static yX2_putWaves).before args s = true := cwS9 5 ht wi_574 wi_573 wi_67 hlink (by decide +kernel) rfl rfl hR
def rm_X2_putJoined : Room := { frames := 4, cells := 0, slots := 0, locals := 118 }
def f_X2_putJoined (nS : Nat) (nA : Nat) (nB : Nat) (zA : SumS) (zB : SumS) (zS : SumS) (a2 : Int32) (a4 : Int32) : Option (SumS) := (f_X4_kindAt nA zA a2).bind fun r_1 => (f_X4_kindAt nB zB a4).bind fun r_2 => (f_X4_argumentAt nA zA a2).bind fun r_3 => (f_X4_argumentAt nB zB a4).bind fun r_4 => (f_X4_powerAt nA zA a2).bind fun r_5 => (f_X4_powerAt nB zB a4).bind fun r_6 => (f_X4_topAt nA zA a2).bind fun r_7 => (f_X4_topAt nB zB a4).bind fun r_8 => (f_X4_bottomAt nA zA a2).bind fun r_9 => (f_X4_bottomAt nB zB a4).bind fun r_10 => (f_X4_put nS zS (mmax32 r_1 r_2) (r_3 + r_4) (r_5 + r_6) (r_7 * r_8) (r_9 * r_10)).bind fun r_11 => some r_11
set_option maxHeartbeats 4000000 in
set_option maxRecDepth 100000 in
theorem b_X2_putJoined_0 {p : Program} {l : Launch} {e : Env} {s : State} {m : MethodId} {args : Array Value} {below : List Frame} {meth : Method} {c : Code} {G : va_G} {cA : Nat → ClassId} {W9 : va_W} (qS : Nat → Nat) (nS : Nat) (qA : Nat → Nat) (nA : Nat) (qB : Nat → Nat) (nB : Nat) (zA : SumS) (zB : SumS) (C0 : Amb p s m args meth c cX2_putJoined RX2 5 none G cA (adr W9) ((wSum cA qA nA zA) ++ (wSum cA qB nB zB))) {res : SumS} : ∀ (zS : SumS) (a2 : Int32) (a4 : Int32) (H : Heap) (locs : List Loc) (ls : Array Slot), va_P G vwCl ((wSum cA qS nS zS)) H → va_D (adr W9) ((wSum cA qS nS zS)) → va_S (adr W9) s.heap H locs → lv_has ls 5 [(0, .ref (qS 0)), (1, .ref (qA 0)), (2, .int a2), (3, .ref (qB 0)), (4, .int a4)] → f_X2_putJoined nS nA nB zA zB zS a2 a4 = some res → W p l e rm_X2_putJoined s m args below meth c H locs 0 0 (MQ below (qWv G W9 ((wSum cA qS nS res))) args s 0 0 (adr W9)) (F0 m 0 ls []) := by
  obtain ⟨hx, hb, hr, hml, hown, hts, hlocks, hK, hR, hRA⟩ := id C0
  intro zS a2 a4 H locs ls hP hD hS hl hf
  unfold f_X2_putJoined at hf
  refine lv_aload_n hx hb dX2_putJoined_0 rfl (lv_at hl 0 rfl) ?_
  refine lv_aload_n hx hb dX2_putJoined_1 rfl (lv_at hl 1 rfl) ?_
  refine lv_iload_n hx hb dX2_putJoined_2 rfl (lv_at hl 2 rfl) ?_
  obtain ⟨r_1, hr_1, hf⟩ := obd hf
  refine cRiV (As := [.int a2]) (rest := [.ref (qS 0)]) ⟨hx, hb, hml, hown, hts⟩ (m_X4_kindAt l G cA qA nA zA a2 r_1 hr_1) (cw_X4_kindAt hts wi_562 ⟨Nat.le_of_ble_eq_true rfl, Nat.le_of_ble_eq_true rfl⟩) hK (pk (roP hR hRA hS) [0, 1, 2, 3] rfl) (va_recv hK.1 (roP hR hRA hS) (ci := 2) (q0 := 0) rfl rfl) rfl hl.1 rfl (Nat.le_of_ble_eq_true rfl) dX2_putJoined_3 ⟨Nat.zero_le _, Nat.zero_le _⟩ ?_
  refine lv_aload_n hx hb dX2_putJoined_6 rfl (lv_at hl 3 rfl) ?_
  refine lv_iload hx hb dX2_putJoined_7 (lv_at hl 4 rfl) ?_
  obtain ⟨r_2, hr_2, hf⟩ := obd hf
  refine cRiV (As := [.int a4]) (rest := [.int r_1, .ref (qS 0)]) ⟨hx, hb, hml, hown, hts⟩ (m_X4_kindAt l G cA qB nB zB a4 r_2 hr_2) (cw_X4_kindAt hts wi_562 ⟨Nat.le_of_ble_eq_true rfl, Nat.le_of_ble_eq_true rfl⟩) hK (pk (roP hR hRA hS) [4, 5, 6, 7] rfl) (va_recv hK.1 (roP hR hRA hS) (ci := 2) (q0 := 4) rfl rfl) rfl hl.1 rfl (Nat.le_of_ble_eq_true rfl) dX2_putJoined_9 ⟨Nat.zero_le _, Nat.zero_le _⟩ ?_
  refine k_max32 hx hb (hml.trans hl.1.symm) hown hts wi_584 (Nat.le_of_ble_eq_true rfl) (Nat.le_of_ble_eq_true rfl) (Nat.zero_le _) (Nat.zero_le _) dX2_putJoined_12 ?_
  refine lv_aload_n hx hb dX2_putJoined_15 rfl (lv_at hl 1 rfl) ?_
  refine lv_iload_n hx hb dX2_putJoined_16 rfl (lv_at hl 2 rfl) ?_
  obtain ⟨r_3, hr_3, hf⟩ := obd hf
  refine cRiV (As := [.int a2]) (rest := [.int (mmax32 r_1 r_2), .ref (qS 0)]) ⟨hx, hb, hml, hown, hts⟩ (m_X4_argumentAt l G cA qA nA zA a2 r_3 hr_3) (cw_X4_argumentAt hts wi_579 ⟨Nat.le_of_ble_eq_true rfl, Nat.le_of_ble_eq_true rfl⟩) hK (pk (roP hR hRA hS) [0, 1, 2, 3] rfl) (va_recv hK.1 (roP hR hRA hS) (ci := 2) (q0 := 0) rfl rfl) rfl hl.1 rfl (Nat.le_of_ble_eq_true rfl) dX2_putJoined_17 ⟨Nat.zero_le _, Nat.zero_le _⟩ ?_
  refine lv_aload_n hx hb dX2_putJoined_20 rfl (lv_at hl 3 rfl) ?_
  refine lv_iload hx hb dX2_putJoined_21 (lv_at hl 4 rfl) ?_
  obtain ⟨r_4, hr_4, hf⟩ := obd hf
  refine cRiV (As := [.int a4]) (rest := [.int r_3, .int (mmax32 r_1 r_2), .ref (qS 0)]) ⟨hx, hb, hml, hown, hts⟩ (m_X4_argumentAt l G cA qB nB zB a4 r_4 hr_4) (cw_X4_argumentAt hts wi_579 ⟨Nat.le_of_ble_eq_true rfl, Nat.le_of_ble_eq_true rfl⟩) hK (pk (roP hR hRA hS) [4, 5, 6, 7] rfl) (va_recv hK.1 (roP hR hRA hS) (ci := 2) (q0 := 4) rfl rfl) rfl hl.1 rfl (Nat.le_of_ble_eq_true rfl) dX2_putJoined_23 ⟨Nat.zero_le _, Nat.zero_le _⟩ ?_
  refine lv_iadd hx hb dX2_putJoined_26 ?_
  refine lv_aload_n hx hb dX2_putJoined_27 rfl (lv_at hl 1 rfl) ?_
  refine lv_iload_n hx hb dX2_putJoined_28 rfl (lv_at hl 2 rfl) ?_
  obtain ⟨r_5, hr_5, hf⟩ := obd hf
  refine cRiV (As := [.int a2]) (rest := [.int (r_3 + r_4), .int (mmax32 r_1 r_2), .ref (qS 0)]) ⟨hx, hb, hml, hown, hts⟩ (m_X4_powerAt l G cA qA nA zA a2 r_5 hr_5) (cw_X4_powerAt hts wi_575 ⟨Nat.le_of_ble_eq_true rfl, Nat.le_of_ble_eq_true rfl⟩) hK (pk (roP hR hRA hS) [0, 1, 2, 3] rfl) (va_recv hK.1 (roP hR hRA hS) (ci := 2) (q0 := 0) rfl rfl) rfl hl.1 rfl (Nat.le_of_ble_eq_true rfl) dX2_putJoined_29 ⟨Nat.zero_le _, Nat.zero_le _⟩ ?_
  refine lv_aload_n hx hb dX2_putJoined_32 rfl (lv_at hl 3 rfl) ?_
  refine lv_iload hx hb dX2_putJoined_33 (lv_at hl 4 rfl) ?_
  obtain ⟨r_6, hr_6, hf⟩ := obd hf
  refine cRiV (As := [.int a4]) (rest := [.int r_5, .int (r_3 + r_4), .int (mmax32 r_1 r_2), .ref (qS 0)]) ⟨hx, hb, hml, hown, hts⟩ (m_X4_powerAt l G cA qB nB zB a4 r_6 hr_6) (cw_X4_powerAt hts wi_575 ⟨Nat.le_of_ble_eq_true rfl, Nat.le_of_ble_eq_true rfl⟩) hK (pk (roP hR hRA hS) [4, 5, 6, 7] rfl) (va_recv hK.1 (roP hR hRA hS) (ci := 2) (q0 := 4) rfl rfl) rfl hl.1 rfl (Nat.le_of_ble_eq_true rfl) dX2_putJoined_35 ⟨Nat.zero_le _, Nat.zero_le _⟩ ?_
  refine lv_iadd hx hb dX2_putJoined_38 ?_
  refine lv_aload_n hx hb dX2_putJoined_39 rfl (lv_at hl 1 rfl) ?_
  refine lv_iload_n hx hb dX2_putJoined_40 rfl (lv_at hl 2 rfl) ?_
  obtain ⟨r_7, hr_7, hf⟩ := obd hf
  refine cRlV (As := [.int a2]) (rest := [.int (r_5 + r_6), .int (r_3 + r_4), .int (mmax32 r_1 r_2), .ref (qS 0)]) ⟨hx, hb, hml, hown, hts⟩ (m_X4_topAt l G cA qA nA zA a2 r_7 hr_7) (cw_X4_topAt hts wi_576 ⟨Nat.le_of_ble_eq_true rfl, Nat.le_of_ble_eq_true rfl⟩) hK (pk (roP hR hRA hS) [0, 1, 2, 3] rfl) (va_recv hK.1 (roP hR hRA hS) (ci := 2) (q0 := 0) rfl rfl) rfl hl.1 rfl (Nat.le_of_ble_eq_true rfl) dX2_putJoined_41 ⟨Nat.zero_le _, Nat.zero_le _⟩ ?_
  refine lv_aload_n hx hb dX2_putJoined_44 rfl (lv_at hl 3 rfl) ?_
  refine lv_iload hx hb dX2_putJoined_45 (lv_at hl 4 rfl) ?_
  obtain ⟨r_8, hr_8, hf⟩ := obd hf
  refine cRlV (As := [.int a4]) (rest := [.long r_7, .int (r_5 + r_6), .int (r_3 + r_4), .int (mmax32 r_1 r_2), .ref (qS 0)]) ⟨hx, hb, hml, hown, hts⟩ (m_X4_topAt l G cA qB nB zB a4 r_8 hr_8) (cw_X4_topAt hts wi_576 ⟨Nat.le_of_ble_eq_true rfl, Nat.le_of_ble_eq_true rfl⟩) hK (pk (roP hR hRA hS) [4, 5, 6, 7] rfl) (va_recv hK.1 (roP hR hRA hS) (ci := 2) (q0 := 4) rfl rfl) rfl hl.1 rfl (Nat.le_of_ble_eq_true rfl) dX2_putJoined_47 ⟨Nat.zero_le _, Nat.zero_le _⟩ ?_
  refine lv_lmul hx hb dX2_putJoined_50 ?_
  refine lv_aload_n hx hb dX2_putJoined_51 rfl (lv_at hl 1 rfl) ?_
  refine lv_iload_n hx hb dX2_putJoined_52 rfl (lv_at hl 2 rfl) ?_
  obtain ⟨r_9, hr_9, hf⟩ := obd hf
  refine cRlV (As := [.int a2]) (rest := [.long (r_7 * r_8), .int (r_5 + r_6), .int (r_3 + r_4), .int (mmax32 r_1 r_2), .ref (qS 0)]) ⟨hx, hb, hml, hown, hts⟩ (m_X4_bottomAt l G cA qA nA zA a2 r_9 hr_9) (cw_X4_bottomAt hts wi_578 ⟨Nat.le_of_ble_eq_true rfl, Nat.le_of_ble_eq_true rfl⟩) hK (pk (roP hR hRA hS) [0, 1, 2, 3] rfl) (va_recv hK.1 (roP hR hRA hS) (ci := 2) (q0 := 0) rfl rfl) rfl hl.1 rfl (Nat.le_of_ble_eq_true rfl) dX2_putJoined_53 ⟨Nat.zero_le _, Nat.zero_le _⟩ ?_
  refine lv_aload_n hx hb dX2_putJoined_56 rfl (lv_at hl 3 rfl) ?_
  refine lv_iload hx hb dX2_putJoined_57 (lv_at hl 4 rfl) ?_
  obtain ⟨r_10, hr_10, hf⟩ := obd hf
  refine cRlV (As := [.int a4]) (rest := [.long r_9, .long (r_7 * r_8), .int (r_5 + r_6), .int (r_3 + r_4), .int (mmax32 r_1 r_2), .ref (qS 0)]) ⟨hx, hb, hml, hown, hts⟩ (m_X4_bottomAt l G cA qB nB zB a4 r_10 hr_10) (cw_X4_bottomAt hts wi_578 ⟨Nat.le_of_ble_eq_true rfl, Nat.le_of_ble_eq_true rfl⟩) hK (pk (roP hR hRA hS) [4, 5, 6, 7] rfl) (va_recv hK.1 (roP hR hRA hS) (ci := 2) (q0 := 4) rfl rfl) rfl hl.1 rfl (Nat.le_of_ble_eq_true rfl) dX2_putJoined_59 ⟨Nat.zero_le _, Nat.zero_le _⟩ ?_
  refine lv_lmul hx hb dX2_putJoined_62 ?_
  obtain ⟨r_11, hr_11, hf⟩ := obd hf
  refine cWvV (As := [.int (mmax32 r_1 r_2), .int (r_3 + r_4), .int (r_5 + r_6), .long (r_7 * r_8), .long (r_9 * r_10)]) (rest := []) (W1 := ((wSum cA qS nS r_11))) ⟨hx, hb, hml, hown, hts⟩ (m_X4_put l G cA qS nS zS (mmax32 r_1 r_2) (r_3 + r_4) (r_5 + r_6) (r_7 * r_8) (r_9 * r_10) r_11 hr_11) (cw_X4_put hts wi_580 ⟨Nat.le_of_ble_eq_true rfl, Nat.le_of_ble_eq_true rfl⟩) hK hP hD hS [0, 1, 2, 3] [4, 5, 6, 7] rfl rfl rfl (by decide) rfl va_Pnil dj_nil (va_recv hK.1 hP (ci := 2) (q0 := 0) rfl rfl) rfl hl.1 rfl (Nat.le_of_ble_eq_true rfl) dX2_putJoined_63 ⟨Nat.zero_le _, Nat.zero_le _⟩ (fun H locs hP hD hS => ?_)
  cases hf
  exact W.vret hx hb hr (fun t ht hW => ⟨⟨(), rfl, trivial, toT ht hP⟩, hS.F ht⟩) hS.2.2 dX2_putJoined_66 hlocks

set_option maxRecDepth 100000 in
theorem m_X2_putJoined (l : Launch) (G : va_G) (cA : Nat → ClassId) (qS : Nat → Nat) (nS : Nat) (qA : Nat → Nat) (nA : Nat) (qB : Nat → Nat) (nB : Nat) (zA : SumS) (zB : SumS) (zS : SumS) (a2 : Int32) (a4 : Int32) (res : SumS) (hf : f_X2_putJoined nS nA nB zA zB zS a2 a4 = some res) : MWv l yX2_putJoined (.code yX2_putJoined cX2_putJoined 5 none :: wd) rm_X2_putJoined G cA [.ref (qS 0), .ref (qA 0), .int a2, .ref (qB 0), .int a4] ((wSum cA qS nS zS)) ((wSum cA qA nA zA) ++ (wSum cA qB nB zB)) ((wSum cA qS nS res)) := by
  refine Met.ofW (cc := cX2_putJoined) (maxL := 5) (ret := none) (by decide) rfl ?_
  intro p e s m args below meth c s₁ B hml hv
  obtain ⟨rfl, hK, hP, hD0, hR, hRA⟩ := hv
  have C0 : Amb p s m ([.ref (qS 0), .ref (qA 0), .int a2, .ref (qB 0), .int a4] : List Value).toArray meth c cX2_putJoined RX2 5 none G cA (adr ((wSum cA qS nS zS))) ((wSum cA qA nA zA) ++ (wSum cA qB nB zB)) := ⟨B.exec, B.bytes, B.returns, hml, findClass_of_methodNamed B.named, fun w h => atoms_spec (ws := (.code yX2_putJoined cX2_putJoined 5 none :: wd)) B.pre w (List.mem_cons_of_mem _ h), B.notSynchronized, hK, hR, hRA⟩
  have hl := lv_entry ([.ref (qS 0), .ref (qA 0), .int a2, .ref (qB 0), .int a4]) (n := 5) (Nat.le_of_ble_eq_true rfl)
  rw [lg_entry_eq]
  generalize (lg_sl ([.ref (qS 0), .ref (qA 0), .int a2, .ref (qB 0), .int a4]) ++ List.replicate (5 - (lg_sl ([.ref (qS 0), .ref (qA 0), .int a2, .ref (qB 0), .int a4])).length) Slot.unset).toArray = ls at hl ⊢
  have hl : lv_has ls 5 [(0, .ref (qS 0)), (1, .ref (qA 0)), (2, .int a2), (3, .ref (qB 0)), (4, .int a4)] := hl
  exact b_X2_putJoined_0 (W9 := ((wSum cA qS nS zS))) qS nS qA nA qB nB  zA zB C0 zS a2 a4 s.heap [] ls hP (adr.self hD0) va_S.rf hl hf
theorem cw_X2_putJoined {R : Room} {s : State} {args : Array Value} {own : String} {index : Nat} (ht : ∀ w ∈ wd, w.before args s = true) (hlink : Cond.methodLink own index yX2_putJoined ∈ wd) (hR : rm_X2_putJoined.frames + 1 ≤ R.frames ∧ 8 + (5 + 11) + rm_X2_putJoined.locals ≤ R.locals) : CallB R s args own index yX2_putJoined cX2_putJoined 5 none (.code yX2_putJoined cX2_putJoined 5 none :: wd) rm_X2_putJoined 0 0 5 ∧ (Cond.static yX2_putJoined).before args s = true := cwS9 5 ht wi_583 wi_582 wi_67 hlink (by decide +kernel) rfl rfl hR
def rm_X2_putProduct : Room := { frames := 5, cells := 0, slots := 0, locals := 152 }
def f_X2_putProduct_66 (nS : Nat) (nA : Nat) (nB : Nat) (zA : SumS) (zB : SumS) (kb_2 : SumS → Int32 → Option (SumS)) (kb_13 : SumS → Int32 → Int32 → Option (SumS)) (zS : SumS) (x3 : Int32) (x4 : Int32) : Option (SumS) := kb_13 zS x3 (x4 + 1)
set_option maxHeartbeats 4000000 in
set_option maxRecDepth 100000 in
theorem b_X2_putProduct_66 {p : Program} {l : Launch} {e : Env} {s : State} {m : MethodId} {args : Array Value} {below : List Frame} {meth : Method} {c : Code} {G : va_G} {cA : Nat → ClassId} {W9 : va_W} (qS : Nat → Nat) (nS : Nat) (qA : Nat → Nat) (nA : Nat) (qB : Nat → Nat) (nB : Nat) (zA : SumS) (zB : SumS) (C0 : Amb p s m args meth c cX2_putProduct RX2 5 none G cA (adr W9) ((wSum cA qA nA zA) ++ (wSum cA qB nB zB))) {res : SumS} (kb_2 : SumS → Int32 → Option (SumS)) (hkb_2 : ∀ (zS : SumS) (x3 : Int32) (H : Heap) (locs : List Loc) (ls : Array Slot), va_P G vwCl ((wSum cA qS nS zS)) H → va_D (adr W9) ((wSum cA qS nS zS)) → va_S (adr W9) s.heap H locs → lv_has ls 5 [(0, .ref (qS 0)), (1, .ref (qA 0)), (2, .ref (qB 0)), (3, .int x3)] → kb_2 zS x3 = some res → W p l e rm_X2_putProduct s m args below meth c H locs 0 0 (MQ below (qWv G W9 ((wSum cA qS nS res))) args s 0 0 (adr W9)) (F0 m 2 ls [])) (kb_13 : SumS → Int32 → Int32 → Option (SumS)) (hkb_13 : ∀ (zS : SumS) (x3 : Int32) (x4 : Int32) (H : Heap) (locs : List Loc) (ls : Array Slot), va_P G vwCl ((wSum cA qS nS zS)) H → va_D (adr W9) ((wSum cA qS nS zS)) → va_S (adr W9) s.heap H locs → lv_has ls 5 [(0, .ref (qS 0)), (1, .ref (qA 0)), (2, .ref (qB 0)), (3, .int x3), (4, .int x4)] → kb_13 zS x3 x4 = some res → W p l e rm_X2_putProduct s m args below meth c H locs 0 0 (MQ below (qWv G W9 ((wSum cA qS nS res))) args s 0 0 (adr W9)) (F0 m 13 ls [])) : ∀ (zS : SumS) (x3 : Int32) (x4 : Int32) (H : Heap) (locs : List Loc) (ls : Array Slot), va_P G vwCl ((wSum cA qS nS zS)) H → va_D (adr W9) ((wSum cA qS nS zS)) → va_S (adr W9) s.heap H locs → lv_has ls 5 [(0, .ref (qS 0)), (1, .ref (qA 0)), (2, .ref (qB 0)), (3, .int x3), (4, .int x4)] → f_X2_putProduct_66 nS nA nB zA zB kb_2 kb_13 zS x3 x4 = some res → W p l e rm_X2_putProduct s m args below meth c H locs 0 0 (MQ below (qWv G W9 ((wSum cA qS nS res))) args s 0 0 (adr W9)) (F0 m 66 ls []) := by
  obtain ⟨hx, hb, hr, hml, hown, hts, hlocks, hK, hR, hRA⟩ := id C0
  intro zS x3 x4 H locs ls hP hD hS hl hf
  unfold f_X2_putProduct_66 at hf
  refine lv_iinc (v := (x4 + 1)) (lv' := [(4, .int (x4 + 1)), (0, .ref (qS 0)), (1, .ref (qA 0)), (2, .ref (qB 0)), (3, .int x3)]) hx hb dX2_putProduct_66 hl (k := 4) rfl rfl (by decide) rfl (fun ls hl => ?_)
  refine lv_goto (tgt := 13) hx hb dX2_putProduct_69 (by decide) ?_
  exact hkb_13 zS x3 (x4 + 1) H locs ls hP hD hS (lv_sub hl [1, 2, 3, 4, 0] rfl) hf
def f_X2_putProduct_57 (nS : Nat) (nA : Nat) (nB : Nat) (zA : SumS) (zB : SumS) (kb_2 : SumS → Int32 → Option (SumS)) (kb_13 : SumS → Int32 → Int32 → Option (SumS)) (zS : SumS) (x3 : Int32) (x4 : Int32) : Option (SumS) := (f_X2_putJoined nS nA nB zA zB zS x3 x4).bind fun r_1 => f_X2_putProduct_66 nS nA nB zA zB kb_2 kb_13 r_1 x3 x4
set_option maxHeartbeats 4000000 in
set_option maxRecDepth 100000 in
theorem b_X2_putProduct_57 {p : Program} {l : Launch} {e : Env} {s : State} {m : MethodId} {args : Array Value} {below : List Frame} {meth : Method} {c : Code} {G : va_G} {cA : Nat → ClassId} {W9 : va_W} (qS : Nat → Nat) (nS : Nat) (qA : Nat → Nat) (nA : Nat) (qB : Nat → Nat) (nB : Nat) (zA : SumS) (zB : SumS) (C0 : Amb p s m args meth c cX2_putProduct RX2 5 none G cA (adr W9) ((wSum cA qA nA zA) ++ (wSum cA qB nB zB))) {res : SumS} (kb_2 : SumS → Int32 → Option (SumS)) (hkb_2 : ∀ (zS : SumS) (x3 : Int32) (H : Heap) (locs : List Loc) (ls : Array Slot), va_P G vwCl ((wSum cA qS nS zS)) H → va_D (adr W9) ((wSum cA qS nS zS)) → va_S (adr W9) s.heap H locs → lv_has ls 5 [(0, .ref (qS 0)), (1, .ref (qA 0)), (2, .ref (qB 0)), (3, .int x3)] → kb_2 zS x3 = some res → W p l e rm_X2_putProduct s m args below meth c H locs 0 0 (MQ below (qWv G W9 ((wSum cA qS nS res))) args s 0 0 (adr W9)) (F0 m 2 ls [])) (kb_13 : SumS → Int32 → Int32 → Option (SumS)) (hkb_13 : ∀ (zS : SumS) (x3 : Int32) (x4 : Int32) (H : Heap) (locs : List Loc) (ls : Array Slot), va_P G vwCl ((wSum cA qS nS zS)) H → va_D (adr W9) ((wSum cA qS nS zS)) → va_S (adr W9) s.heap H locs → lv_has ls 5 [(0, .ref (qS 0)), (1, .ref (qA 0)), (2, .ref (qB 0)), (3, .int x3), (4, .int x4)] → kb_13 zS x3 x4 = some res → W p l e rm_X2_putProduct s m args below meth c H locs 0 0 (MQ below (qWv G W9 ((wSum cA qS nS res))) args s 0 0 (adr W9)) (F0 m 13 ls [])) : ∀ (zS : SumS) (x3 : Int32) (x4 : Int32) (H : Heap) (locs : List Loc) (ls : Array Slot), va_P G vwCl ((wSum cA qS nS zS)) H → va_D (adr W9) ((wSum cA qS nS zS)) → va_S (adr W9) s.heap H locs → lv_has ls 5 [(0, .ref (qS 0)), (1, .ref (qA 0)), (2, .ref (qB 0)), (3, .int x3), (4, .int x4)] → f_X2_putProduct_57 nS nA nB zA zB kb_2 kb_13 zS x3 x4 = some res → W p l e rm_X2_putProduct s m args below meth c H locs 0 0 (MQ below (qWv G W9 ((wSum cA qS nS res))) args s 0 0 (adr W9)) (F0 m 57 ls []) := by
  obtain ⟨hx, hb, hr, hml, hown, hts, hlocks, hK, hR, hRA⟩ := id C0
  intro zS x3 x4 H locs ls hP hD hS hl hf
  unfold f_X2_putProduct_57 at hf
  refine lv_aload_n hx hb dX2_putProduct_57 rfl (lv_at hl 0 rfl) ?_
  refine lv_aload_n hx hb dX2_putProduct_58 rfl (lv_at hl 1 rfl) ?_
  refine lv_iload_n hx hb dX2_putProduct_59 rfl (lv_at hl 3 rfl) ?_
  refine lv_aload_n hx hb dX2_putProduct_60 rfl (lv_at hl 2 rfl) ?_
  refine lv_iload hx hb dX2_putProduct_61 (lv_at hl 4 rfl) ?_
  obtain ⟨r_1, hr_1, hf⟩ := obd hf
  refine cWvS (As := [.ref (qS 0), .ref (qA 0), .int x3, .ref (qB 0), .int x4]) (rest := []) (W1 := ((wSum cA qS nS r_1))) ⟨hx, hb, hml, hown, hts⟩ (m_X2_putJoined l G cA qS nS qA nA qB nB zA zB zS x3 x4 r_1 hr_1) (cw_X2_putJoined hts wi_581 ⟨Nat.le_of_ble_eq_true rfl, Nat.le_of_ble_eq_true rfl⟩) hK hP hD hS [0, 1, 2, 3] [4, 5, 6, 7] rfl rfl rfl (by decide) rfl (va_P.app (pk (roP hR hRA hS) [0, 1, 2, 3] rfl) (pk (roP hR hRA hS) [4, 5, 6, 7] rfl)) (dj_app (dj_ro hD hRA [0, 1, 2, 3] (rfl : [0, 1, 2, 3].map _ = _) rfl) (dj_ro hD hRA [4, 5, 6, 7] (rfl : [0, 1, 2, 3].map _ = _) rfl)) rfl hl.1 rfl (Nat.le_of_ble_eq_true rfl) dX2_putProduct_63 ⟨Nat.zero_le _, Nat.zero_le _⟩ (fun H locs hP hD hS => ?_)
  exact b_X2_putProduct_66 qS nS qA nA qB nB  zA zB C0 kb_2 hkb_2 kb_13 hkb_13 r_1 x3 x4 H locs ls hP hD hS (lv_sub hl [0, 1, 2, 3, 4] rfl) hf
def f_X2_putProduct_13 (nS : Nat) (nA : Nat) (nB : Nat) (zA : SumS) (zB : SumS) (kb_2 : SumS → Int32 → Option (SumS)) : Nat → SumS → Int32 → Int32 → Option (SumS)
  | 0, _, _, _ => none
  | fu + 1, zS, x3, x4 => (f_X4_size nB zB).bind fun r_1 => if r_1 ≤ x4 then kb_2 zS (x3 + 1) else (f_X4_kindAt nA zA x3).bind fun r_3 => (f_X2_isWave r_3).bind fun r_4 => if r_4 = 0 then f_X2_putProduct_57 nS nA nB zA zB kb_2 (fun zS_ x3_ x4_ => f_X2_putProduct_13 nS nA nB zA zB kb_2 fu zS_ x3_ x4_) zS x3 x4 else (f_X4_kindAt nB zB x4).bind fun r_6 => (f_X2_isWave r_6).bind fun r_7 => if r_7 = 0 then f_X2_putProduct_57 nS nA nB zA zB kb_2 (fun zS_ x3_ x4_ => f_X2_putProduct_13 nS nA nB zA zB kb_2 fu zS_ x3_ x4_) zS x3 x4 else (f_X2_putWaves nS nA nB zA zB zS x3 x4).bind fun r_9 => f_X2_putProduct_66 nS nA nB zA zB kb_2 (fun zS_ x3_ x4_ => f_X2_putProduct_13 nS nA nB zA zB kb_2 fu zS_ x3_ x4_) r_9 x3 x4
set_option maxHeartbeats 4000000 in
set_option maxRecDepth 100000 in
theorem b_X2_putProduct_13 {p : Program} {l : Launch} {e : Env} {s : State} {m : MethodId} {args : Array Value} {below : List Frame} {meth : Method} {c : Code} {G : va_G} {cA : Nat → ClassId} {W9 : va_W} (qS : Nat → Nat) (nS : Nat) (qA : Nat → Nat) (nA : Nat) (qB : Nat → Nat) (nB : Nat) (zA : SumS) (zB : SumS) (C0 : Amb p s m args meth c cX2_putProduct RX2 5 none G cA (adr W9) ((wSum cA qA nA zA) ++ (wSum cA qB nB zB))) {res : SumS} (kb_2 : SumS → Int32 → Option (SumS)) (hkb_2 : ∀ (zS : SumS) (x3 : Int32) (H : Heap) (locs : List Loc) (ls : Array Slot), va_P G vwCl ((wSum cA qS nS zS)) H → va_D (adr W9) ((wSum cA qS nS zS)) → va_S (adr W9) s.heap H locs → lv_has ls 5 [(0, .ref (qS 0)), (1, .ref (qA 0)), (2, .ref (qB 0)), (3, .int x3)] → kb_2 zS x3 = some res → W p l e rm_X2_putProduct s m args below meth c H locs 0 0 (MQ below (qWv G W9 ((wSum cA qS nS res))) args s 0 0 (adr W9)) (F0 m 2 ls [])) : ∀ (fu : Nat) (zS : SumS) (x3 : Int32) (x4 : Int32) (H : Heap) (locs : List Loc) (ls : Array Slot), va_P G vwCl ((wSum cA qS nS zS)) H → va_D (adr W9) ((wSum cA qS nS zS)) → va_S (adr W9) s.heap H locs → lv_has ls 5 [(0, .ref (qS 0)), (1, .ref (qA 0)), (2, .ref (qB 0)), (3, .int x3), (4, .int x4)] → f_X2_putProduct_13 nS nA nB zA zB kb_2 fu zS x3 x4 = some res → W p l e rm_X2_putProduct s m args below meth c H locs 0 0 (MQ below (qWv G W9 ((wSum cA qS nS res))) args s 0 0 (adr W9)) (F0 m 13 ls []) := by
  obtain ⟨hx, hb, hr, hml, hown, hts, hlocks, hK, hR, hRA⟩ := id C0
  intro fu
  induction fu with
  | zero =>
    intro zS x3 x4 H locs ls hP hD hS hl hf
    rw [f_X2_putProduct_13] at hf
    cases hf
  | succ fu ih =>
    intro zS x3 x4 H locs ls hP hD hS hl hf
    rw [f_X2_putProduct_13] at hf
    refine lv_iload hx hb dX2_putProduct_13 (lv_at hl 4 rfl) ?_
    refine lv_aload_n hx hb dX2_putProduct_15 rfl (lv_at hl 2 rfl) ?_
    obtain ⟨r_1, hr_1, hf⟩ := obd hf
    refine cRiV (As := []) (rest := [.int x4]) ⟨hx, hb, hml, hown, hts⟩ (m_X4_size l G cA qB nB zB r_1 hr_1) (cw_X4_size hts wi_561 ⟨Nat.le_of_ble_eq_true rfl, Nat.le_of_ble_eq_true rfl⟩) hK (pk (roP hR hRA hS) [4, 5, 6, 7] rfl) (va_recv hK.1 (roP hR hRA hS) (ci := 2) (q0 := 4) rfl rfl) rfl hl.1 rfl (Nat.le_of_ble_eq_true rfl) dX2_putProduct_16 ⟨Nat.zero_le _, Nat.zero_le _⟩ ?_
    refine lv_icmp_ge (tgt := 72) hx hb dX2_putProduct_19 (by decide) (fun c_2 => ?_) (fun c_2 => ?_)
    · rw [if_pos (c_2)] at hf
      refine lv_iinc (v := (x3 + 1)) (lv' := [(3, .int (x3 + 1)), (0, .ref (qS 0)), (1, .ref (qA 0)), (2, .ref (qB 0)), (4, .int x4)]) hx hb dX2_putProduct_72 hl (k := 3) rfl rfl (by decide) rfl (fun ls hl => ?_)
      refine lv_goto (tgt := 2) hx hb dX2_putProduct_75 (by decide) ?_
      exact hkb_2 zS (x3 + 1) H locs ls hP hD hS (lv_sub hl [1, 2, 3, 0] rfl) hf
    · rw [if_neg (c_2)] at hf
      refine lv_aload_n hx hb dX2_putProduct_22 rfl (lv_at hl 1 rfl) ?_
      refine lv_iload_n hx hb dX2_putProduct_23 rfl (lv_at hl 3 rfl) ?_
      obtain ⟨r_3, hr_3, hf⟩ := obd hf
      refine cRiV (As := [.int x3]) (rest := []) ⟨hx, hb, hml, hown, hts⟩ (m_X4_kindAt l G cA qA nA zA x3 r_3 hr_3) (cw_X4_kindAt hts wi_562 ⟨Nat.le_of_ble_eq_true rfl, Nat.le_of_ble_eq_true rfl⟩) hK (pk (roP hR hRA hS) [0, 1, 2, 3] rfl) (va_recv hK.1 (roP hR hRA hS) (ci := 2) (q0 := 0) rfl rfl) rfl hl.1 rfl (Nat.le_of_ble_eq_true rfl) dX2_putProduct_24 ⟨Nat.zero_le _, Nat.zero_le _⟩ ?_
      obtain ⟨r_4, hr_4, hf⟩ := obd hf
      refine cRiS (As := [.int r_3]) (rest := []) ⟨hx, hb, hml, hown, hts⟩ (m_X2_isWave l G cA r_3 r_4 hr_4) (cw_X2_isWave hts wi_566 ⟨Nat.le_of_ble_eq_true rfl, Nat.le_of_ble_eq_true rfl⟩) hK va_Pnil rfl hl.1 rfl (Nat.le_of_ble_eq_true rfl) dX2_putProduct_27 ⟨Nat.zero_le _, Nat.zero_le _⟩ ?_
      refine lv_if_eq (tgt := 57) hx hb dX2_putProduct_30 (by decide) (fun c_5 => ?_) (fun c_5 => ?_)
      · rw [if_pos (c_5)] at hf
        exact b_X2_putProduct_57 qS nS qA nA qB nB  zA zB C0 kb_2 hkb_2 (fun zS_ x3_ x4_ => f_X2_putProduct_13 nS nA nB zA zB kb_2 fu zS_ x3_ x4_) ih zS x3 x4 H locs ls hP hD hS (lv_sub hl [0, 1, 2, 3, 4] rfl) hf
      · rw [if_neg (c_5)] at hf
        refine lv_aload_n hx hb dX2_putProduct_33 rfl (lv_at hl 2 rfl) ?_
        refine lv_iload hx hb dX2_putProduct_34 (lv_at hl 4 rfl) ?_
        obtain ⟨r_6, hr_6, hf⟩ := obd hf
        refine cRiV (As := [.int x4]) (rest := []) ⟨hx, hb, hml, hown, hts⟩ (m_X4_kindAt l G cA qB nB zB x4 r_6 hr_6) (cw_X4_kindAt hts wi_562 ⟨Nat.le_of_ble_eq_true rfl, Nat.le_of_ble_eq_true rfl⟩) hK (pk (roP hR hRA hS) [4, 5, 6, 7] rfl) (va_recv hK.1 (roP hR hRA hS) (ci := 2) (q0 := 4) rfl rfl) rfl hl.1 rfl (Nat.le_of_ble_eq_true rfl) dX2_putProduct_36 ⟨Nat.zero_le _, Nat.zero_le _⟩ ?_
        obtain ⟨r_7, hr_7, hf⟩ := obd hf
        refine cRiS (As := [.int r_6]) (rest := []) ⟨hx, hb, hml, hown, hts⟩ (m_X2_isWave l G cA r_6 r_7 hr_7) (cw_X2_isWave hts wi_566 ⟨Nat.le_of_ble_eq_true rfl, Nat.le_of_ble_eq_true rfl⟩) hK va_Pnil rfl hl.1 rfl (Nat.le_of_ble_eq_true rfl) dX2_putProduct_39 ⟨Nat.zero_le _, Nat.zero_le _⟩ ?_
        refine lv_if_eq (tgt := 57) hx hb dX2_putProduct_42 (by decide) (fun c_8 => ?_) (fun c_8 => ?_)
        · rw [if_pos (c_8)] at hf
          exact b_X2_putProduct_57 qS nS qA nA qB nB  zA zB C0 kb_2 hkb_2 (fun zS_ x3_ x4_ => f_X2_putProduct_13 nS nA nB zA zB kb_2 fu zS_ x3_ x4_) ih zS x3 x4 H locs ls hP hD hS (lv_sub hl [0, 1, 2, 3, 4] rfl) hf
        · rw [if_neg (c_8)] at hf
          refine lv_aload_n hx hb dX2_putProduct_45 rfl (lv_at hl 0 rfl) ?_
          refine lv_aload_n hx hb dX2_putProduct_46 rfl (lv_at hl 1 rfl) ?_
          refine lv_iload_n hx hb dX2_putProduct_47 rfl (lv_at hl 3 rfl) ?_
          refine lv_aload_n hx hb dX2_putProduct_48 rfl (lv_at hl 2 rfl) ?_
          refine lv_iload hx hb dX2_putProduct_49 (lv_at hl 4 rfl) ?_
          obtain ⟨r_9, hr_9, hf⟩ := obd hf
          refine cWvS (As := [.ref (qS 0), .ref (qA 0), .int x3, .ref (qB 0), .int x4]) (rest := []) (W1 := ((wSum cA qS nS r_9))) ⟨hx, hb, hml, hown, hts⟩ (m_X2_putWaves l G cA qS nS qA nA qB nB zA zB zS x3 x4 r_9 hr_9) (cw_X2_putWaves hts wi_572 ⟨Nat.le_of_ble_eq_true rfl, Nat.le_of_ble_eq_true rfl⟩) hK hP hD hS [0, 1, 2, 3] [4, 5, 6, 7] rfl rfl rfl (by decide) rfl (va_P.app (pk (roP hR hRA hS) [0, 1, 2, 3] rfl) (pk (roP hR hRA hS) [4, 5, 6, 7] rfl)) (dj_app (dj_ro hD hRA [0, 1, 2, 3] (rfl : [0, 1, 2, 3].map _ = _) rfl) (dj_ro hD hRA [4, 5, 6, 7] (rfl : [0, 1, 2, 3].map _ = _) rfl)) rfl hl.1 rfl (Nat.le_of_ble_eq_true rfl) dX2_putProduct_51 ⟨Nat.zero_le _, Nat.zero_le _⟩ (fun H locs hP hD hS => ?_)
          refine lv_goto (tgt := 66) hx hb dX2_putProduct_54 (by decide) ?_
          exact b_X2_putProduct_66 qS nS qA nA qB nB  zA zB C0 kb_2 hkb_2 (fun zS_ x3_ x4_ => f_X2_putProduct_13 nS nA nB zA zB kb_2 fu zS_ x3_ x4_) ih r_9 x3 x4 H locs ls hP hD hS (lv_sub hl [0, 1, 2, 3, 4] rfl) hf
def f_X2_putProduct_2 (nS : Nat) (nA : Nat) (nB : Nat) (zA : SumS) (zB : SumS) : Nat → SumS → Int32 → Option (SumS)
  | 0, _, _ => none
  | fu + 1, zS, x3 => (f_X4_size nA zA).bind fun r_1 => if r_1 ≤ x3 then some zS else f_X2_putProduct_13 nS nA nB zA zB (fun zS_ x3_ => f_X2_putProduct_2 nS nA nB zA zB fu zS_ x3_) fuel zS x3 (0 : Int32)
set_option maxHeartbeats 4000000 in
set_option maxRecDepth 100000 in
theorem b_X2_putProduct_2 {p : Program} {l : Launch} {e : Env} {s : State} {m : MethodId} {args : Array Value} {below : List Frame} {meth : Method} {c : Code} {G : va_G} {cA : Nat → ClassId} {W9 : va_W} (qS : Nat → Nat) (nS : Nat) (qA : Nat → Nat) (nA : Nat) (qB : Nat → Nat) (nB : Nat) (zA : SumS) (zB : SumS) (C0 : Amb p s m args meth c cX2_putProduct RX2 5 none G cA (adr W9) ((wSum cA qA nA zA) ++ (wSum cA qB nB zB))) {res : SumS} : ∀ (fu : Nat) (zS : SumS) (x3 : Int32) (H : Heap) (locs : List Loc) (ls : Array Slot), va_P G vwCl ((wSum cA qS nS zS)) H → va_D (adr W9) ((wSum cA qS nS zS)) → va_S (adr W9) s.heap H locs → lv_has ls 5 [(0, .ref (qS 0)), (1, .ref (qA 0)), (2, .ref (qB 0)), (3, .int x3)] → f_X2_putProduct_2 nS nA nB zA zB fu zS x3 = some res → W p l e rm_X2_putProduct s m args below meth c H locs 0 0 (MQ below (qWv G W9 ((wSum cA qS nS res))) args s 0 0 (adr W9)) (F0 m 2 ls []) := by
  obtain ⟨hx, hb, hr, hml, hown, hts, hlocks, hK, hR, hRA⟩ := id C0
  intro fu
  induction fu with
  | zero =>
    intro zS x3 H locs ls hP hD hS hl hf
    rw [f_X2_putProduct_2] at hf
    cases hf
  | succ fu ih =>
    intro zS x3 H locs ls hP hD hS hl hf
    rw [f_X2_putProduct_2] at hf
    refine lv_iload_n hx hb dX2_putProduct_2 rfl (lv_at hl 3 rfl) ?_
    refine lv_aload_n hx hb dX2_putProduct_3 rfl (lv_at hl 1 rfl) ?_
    obtain ⟨r_1, hr_1, hf⟩ := obd hf
    refine cRiV (As := []) (rest := [.int x3]) ⟨hx, hb, hml, hown, hts⟩ (m_X4_size l G cA qA nA zA r_1 hr_1) (cw_X4_size hts wi_561 ⟨Nat.le_of_ble_eq_true rfl, Nat.le_of_ble_eq_true rfl⟩) hK (pk (roP hR hRA hS) [0, 1, 2, 3] rfl) (va_recv hK.1 (roP hR hRA hS) (ci := 2) (q0 := 0) rfl rfl) rfl hl.1 rfl (Nat.le_of_ble_eq_true rfl) dX2_putProduct_4 ⟨Nat.zero_le _, Nat.zero_le _⟩ ?_
    refine lv_icmp_ge (tgt := 78) hx hb dX2_putProduct_7 (by decide) (fun c_2 => ?_) (fun c_2 => ?_)
    · rw [if_pos (c_2)] at hf
      cases hf
      exact W.vret hx hb hr (fun t ht hW => ⟨⟨(), rfl, trivial, toT ht hP⟩, hS.F ht⟩) hS.2.2 dX2_putProduct_78 hlocks
    · rw [if_neg (c_2)] at hf
      refine lv_iconst (v := 0) hx hb dX2_putProduct_10 (by decide) ?_
      refine lv_istore (lv' := [(4, .int (0 : Int32)), (0, .ref (qS 0)), (1, .ref (qA 0)), (2, .ref (qB 0)), (3, .int x3)]) hx hb dX2_putProduct_11 hl (by decide) rfl (fun ls hl => ?_)
      exact b_X2_putProduct_13 qS nS qA nA qB nB  zA zB C0 (fun zS_ x3_ => f_X2_putProduct_2 nS nA nB zA zB fu zS_ x3_) ih fuel zS x3 (0 : Int32) H locs ls hP hD hS (lv_sub hl [1, 2, 3, 4, 0] rfl) hf
def f_X2_putProduct (nS : Nat) (nA : Nat) (nB : Nat) (zA : SumS) (zB : SumS) (zS : SumS) : Option (SumS) := f_X2_putProduct_2 nS nA nB zA zB fuel zS (0 : Int32)
set_option maxHeartbeats 4000000 in
set_option maxRecDepth 100000 in
theorem b_X2_putProduct_0 {p : Program} {l : Launch} {e : Env} {s : State} {m : MethodId} {args : Array Value} {below : List Frame} {meth : Method} {c : Code} {G : va_G} {cA : Nat → ClassId} {W9 : va_W} (qS : Nat → Nat) (nS : Nat) (qA : Nat → Nat) (nA : Nat) (qB : Nat → Nat) (nB : Nat) (zA : SumS) (zB : SumS) (C0 : Amb p s m args meth c cX2_putProduct RX2 5 none G cA (adr W9) ((wSum cA qA nA zA) ++ (wSum cA qB nB zB))) {res : SumS} : ∀ (zS : SumS) (H : Heap) (locs : List Loc) (ls : Array Slot), va_P G vwCl ((wSum cA qS nS zS)) H → va_D (adr W9) ((wSum cA qS nS zS)) → va_S (adr W9) s.heap H locs → lv_has ls 5 [(0, .ref (qS 0)), (1, .ref (qA 0)), (2, .ref (qB 0))] → f_X2_putProduct nS nA nB zA zB zS = some res → W p l e rm_X2_putProduct s m args below meth c H locs 0 0 (MQ below (qWv G W9 ((wSum cA qS nS res))) args s 0 0 (adr W9)) (F0 m 0 ls []) := by
  obtain ⟨hx, hb, hr, hml, hown, hts, hlocks, hK, hR, hRA⟩ := id C0
  intro zS H locs ls hP hD hS hl hf
  unfold f_X2_putProduct at hf
  refine lv_iconst (v := 0) hx hb dX2_putProduct_0 (by decide) ?_
  refine lv_istore_n (lv' := [(3, .int (0 : Int32)), (0, .ref (qS 0)), (1, .ref (qA 0)), (2, .ref (qB 0))]) hx hb dX2_putProduct_1 rfl hl (by decide) rfl (fun ls hl => ?_)
  exact b_X2_putProduct_2 qS nS qA nA qB nB  zA zB C0  fuel zS (0 : Int32) H locs ls hP hD hS (lv_sub hl [1, 2, 3, 0] rfl) hf

set_option maxRecDepth 100000 in
theorem m_X2_putProduct (l : Launch) (G : va_G) (cA : Nat → ClassId) (qS : Nat → Nat) (nS : Nat) (qA : Nat → Nat) (nA : Nat) (qB : Nat → Nat) (nB : Nat) (zA : SumS) (zB : SumS) (zS : SumS) (res : SumS) (hf : f_X2_putProduct nS nA nB zA zB zS = some res) : MWv l yX2_putProduct (.code yX2_putProduct cX2_putProduct 5 none :: wd) rm_X2_putProduct G cA [.ref (qS 0), .ref (qA 0), .ref (qB 0)] ((wSum cA qS nS zS)) ((wSum cA qA nA zA) ++ (wSum cA qB nB zB)) ((wSum cA qS nS res)) := by
  refine Met.ofW (cc := cX2_putProduct) (maxL := 5) (ret := none) (by decide) rfl ?_
  intro p e s m args below meth c s₁ B hml hv
  obtain ⟨rfl, hK, hP, hD0, hR, hRA⟩ := hv
  have C0 : Amb p s m ([.ref (qS 0), .ref (qA 0), .ref (qB 0)] : List Value).toArray meth c cX2_putProduct RX2 5 none G cA (adr ((wSum cA qS nS zS))) ((wSum cA qA nA zA) ++ (wSum cA qB nB zB)) := ⟨B.exec, B.bytes, B.returns, hml, findClass_of_methodNamed B.named, fun w h => atoms_spec (ws := (.code yX2_putProduct cX2_putProduct 5 none :: wd)) B.pre w (List.mem_cons_of_mem _ h), B.notSynchronized, hK, hR, hRA⟩
  have hl := lv_entry ([.ref (qS 0), .ref (qA 0), .ref (qB 0)]) (n := 5) (Nat.le_of_ble_eq_true rfl)
  rw [lg_entry_eq]
  generalize (lg_sl ([.ref (qS 0), .ref (qA 0), .ref (qB 0)]) ++ List.replicate (5 - (lg_sl ([.ref (qS 0), .ref (qA 0), .ref (qB 0)])).length) Slot.unset).toArray = ls at hl ⊢
  have hl : lv_has ls 5 [(0, .ref (qS 0)), (1, .ref (qA 0)), (2, .ref (qB 0))] := hl
  exact b_X2_putProduct_0 (W9 := ((wSum cA qS nS zS))) qS nS qA nA qB nB  zA zB C0 zS s.heap [] ls hP (adr.self hD0) va_S.rf hl hf
theorem cw_X2_putProduct {R : Room} {s : State} {args : Array Value} {own : String} {index : Nat} (ht : ∀ w ∈ wd, w.before args s = true) (hlink : Cond.methodLink own index yX2_putProduct ∈ wd) (hR : rm_X2_putProduct.frames + 1 ≤ R.frames ∧ 8 + (5 + 11) + rm_X2_putProduct.locals ≤ R.locals) : CallB R s args own index yX2_putProduct cX2_putProduct 5 none (.code yX2_putProduct cX2_putProduct 5 none :: wd) rm_X2_putProduct 0 0 3 ∧ (Cond.static yX2_putProduct).before args s = true := cwS9 3 ht wi_571 wi_570 wi_67 hlink (by decide +kernel) rfl rfl hR
def rm_X0_turned : Room := { frames := 0, cells := 0, slots := 0, locals := 0 }
def f_X0_turned (a0 : Int32) : Option (Int32) := if ¬ a0 = (3 : Int32) then if ¬ a0 = (4 : Int32) then some a0 else some (3 : Int32) else some (4 : Int32)
set_option maxHeartbeats 4000000 in
set_option maxRecDepth 100000 in
theorem b_X0_turned_0 {p : Program} {l : Launch} {e : Env} {s : State} {m : MethodId} {args : Array Value} {below : List Frame} {meth : Method} {c : Code} {G : va_G} {cA : Nat → ClassId} (C0 : Amb p s m args meth c cX0_turned RX0 1 (some .int) G cA (fun _ : Nat => False) []) {res : Int32} : ∀ (a0 : Int32) (ls : Array Slot), lv_has ls 1 [(0, .int a0)] → f_X0_turned a0 = some res → W p l e rm_X0_turned s m args below meth c s.heap [] 0 0 (MQ below (vp_Si (fun x => x = res)) args s 0 0 (fun _ : Nat => False)) (F0 m 0 ls []) := by
  obtain ⟨hx, hb, hr, hml, hown, hts, hlocks, hK, hR, hRA⟩ := id C0
  intro a0 ls hl hf
  unfold f_X0_turned at hf
  refine lv_iload_n hx hb dX0_turned_0 rfl (lv_at hl 0 rfl) ?_
  refine lv_iconst (v := 3) hx hb dX0_turned_1 (by decide) ?_
  refine lv_icmp_ne (tgt := 9) hx hb dX0_turned_2 (by decide) (fun c_1 => ?_) (fun c_1 => ?_)
  · rw [if_pos (c_1)] at hf
    refine lv_iload_n hx hb dX0_turned_9 rfl (lv_at hl 0 rfl) ?_
    refine lv_iconst (v := 4) hx hb dX0_turned_10 (by decide) ?_
    refine lv_icmp_ne (tgt := 18) hx hb dX0_turned_11 (by decide) (fun c_2 => ?_) (fun c_2 => ?_)
    · rw [if_pos (c_2)] at hf
      refine lv_iload_n hx hb dX0_turned_18 rfl (lv_at hl 0 rfl) ?_
      cases hf
      exact W.iret hx hb hr (fun t ht hW => ⟨_, rfl, rfl, ht⟩) (fun q hq => by cases hq) dX0_turned_19 hlocks
    · rw [if_neg (not_not_intro c_2)] at hf
      refine lv_iconst (v := 3) hx hb dX0_turned_14 (by decide) ?_
      refine lv_goto (tgt := 19) hx hb dX0_turned_15 (by decide) ?_
      cases hf
      exact W.iret hx hb hr (fun t ht hW => ⟨_, rfl, rfl, ht⟩) (fun q hq => by cases hq) dX0_turned_19 hlocks
  · rw [if_neg (not_not_intro c_1)] at hf
    refine lv_iconst (v := 4) hx hb dX0_turned_5 (by decide) ?_
    refine lv_goto (tgt := 19) hx hb dX0_turned_6 (by decide) ?_
    cases hf
    exact W.iret hx hb hr (fun t ht hW => ⟨_, rfl, rfl, ht⟩) (fun q hq => by cases hq) dX0_turned_19 hlocks

set_option maxRecDepth 100000 in
theorem m_X0_turned (l : Launch) (G : va_G) (cA : Nat → ClassId) (a0 : Int32) (res : Int32) (hf : f_X0_turned a0 = some res) : MRi l yX0_turned (.code yX0_turned cX0_turned 1 (some .int) :: wd) rm_X0_turned G cA [.int a0] [] res := by
  refine Met.ofW (cc := cX0_turned) (maxL := 1) (ret := (some .int)) (by decide) rfl ?_
  intro p e s m args below meth c s₁ B hml hv
  obtain ⟨rfl, hK, hR⟩ := hv
  have C0 : Amb p s m ([.int a0] : List Value).toArray meth c cX0_turned RX0 1 (some .int) G cA (fun _ : Nat => False) [] := ⟨B.exec, B.bytes, B.returns, hml, findClass_of_methodNamed B.named, fun w h => atoms_spec (ws := (.code yX0_turned cX0_turned 1 (some .int) :: wd)) B.pre w (List.mem_cons_of_mem _ h), B.notSynchronized, hK, hR, fun _ _ _ h => h⟩
  have hl := lv_entry ([.int a0]) (n := 1) (Nat.le_of_ble_eq_true rfl)
  rw [lg_entry_eq]
  generalize (lg_sl ([.int a0]) ++ List.replicate (1 - (lg_sl ([.int a0])).length) Slot.unset).toArray = ls at hl ⊢
  have hl : lv_has ls 1 [(0, .int a0)] := hl
  exact b_X0_turned_0    C0 a0 ls hl hf
theorem cw_X0_turned {R : Room} {s : State} {args : Array Value} {own : String} {index : Nat} (ht : ∀ w ∈ wd, w.before args s = true) (hlink : Cond.methodLink own index yX0_turned ∈ wd) (hR : rm_X0_turned.frames + 1 ≤ R.frames ∧ 8 + (1 + 11) + rm_X0_turned.locals ≤ R.locals) : CallB R s args own index yX0_turned cX0_turned 1 (some .int) (.code yX0_turned cX0_turned 1 (some .int) :: wd) rm_X0_turned 0 0 1 ∧ (Cond.static yX0_turned).before args s = true := cwS9 1 ht wi_606 wi_605 wi_68 hlink (by decide +kernel) rfl rfl hR
def rm_X0_signDerived : Room := { frames := 0, cells := 0, slots := 0, locals := 0 }
def f_X0_signDerived (a0 : Int32) : Option (Int32) := if ¬ a0 = (4 : Int32) then some (1 : Int32) else some (-1 : Int32)
set_option maxHeartbeats 4000000 in
set_option maxRecDepth 100000 in
theorem b_X0_signDerived_0 {p : Program} {l : Launch} {e : Env} {s : State} {m : MethodId} {args : Array Value} {below : List Frame} {meth : Method} {c : Code} {G : va_G} {cA : Nat → ClassId} (C0 : Amb p s m args meth c cX0_signDerived RX0 1 (some .int) G cA (fun _ : Nat => False) []) {res : Int32} : ∀ (a0 : Int32) (ls : Array Slot), lv_has ls 1 [(0, .int a0)] → f_X0_signDerived a0 = some res → W p l e rm_X0_signDerived s m args below meth c s.heap [] 0 0 (MQ below (vp_Si (fun x => x = res)) args s 0 0 (fun _ : Nat => False)) (F0 m 0 ls []) := by
  obtain ⟨hx, hb, hr, hml, hown, hts, hlocks, hK, hR, hRA⟩ := id C0
  intro a0 ls hl hf
  unfold f_X0_signDerived at hf
  refine lv_iload_n hx hb dX0_signDerived_0 rfl (lv_at hl 0 rfl) ?_
  refine lv_iconst (v := 4) hx hb dX0_signDerived_1 (by decide) ?_
  refine lv_icmp_ne (tgt := 9) hx hb dX0_signDerived_2 (by decide) (fun c_1 => ?_) (fun c_1 => ?_)
  · rw [if_pos (c_1)] at hf
    refine lv_iconst (v := 1) hx hb dX0_signDerived_9 (by decide) ?_
    cases hf
    exact W.iret hx hb hr (fun t ht hW => ⟨_, rfl, rfl, ht⟩) (fun q hq => by cases hq) dX0_signDerived_10 hlocks
  · rw [if_neg (not_not_intro c_1)] at hf
    refine lv_iconst (v := (-1)) hx hb dX0_signDerived_5 (by decide) ?_
    refine lv_goto (tgt := 10) hx hb dX0_signDerived_6 (by decide) ?_
    cases hf
    exact W.iret hx hb hr (fun t ht hW => ⟨_, rfl, rfl, ht⟩) (fun q hq => by cases hq) dX0_signDerived_10 hlocks

set_option maxRecDepth 100000 in
theorem m_X0_signDerived (l : Launch) (G : va_G) (cA : Nat → ClassId) (a0 : Int32) (res : Int32) (hf : f_X0_signDerived a0 = some res) : MRi l yX0_signDerived (.code yX0_signDerived cX0_signDerived 1 (some .int) :: wd) rm_X0_signDerived G cA [.int a0] [] res := by
  refine Met.ofW (cc := cX0_signDerived) (maxL := 1) (ret := (some .int)) (by decide) rfl ?_
  intro p e s m args below meth c s₁ B hml hv
  obtain ⟨rfl, hK, hR⟩ := hv
  have C0 : Amb p s m ([.int a0] : List Value).toArray meth c cX0_signDerived RX0 1 (some .int) G cA (fun _ : Nat => False) [] := ⟨B.exec, B.bytes, B.returns, hml, findClass_of_methodNamed B.named, fun w h => atoms_spec (ws := (.code yX0_signDerived cX0_signDerived 1 (some .int) :: wd)) B.pre w (List.mem_cons_of_mem _ h), B.notSynchronized, hK, hR, fun _ _ _ h => h⟩
  have hl := lv_entry ([.int a0]) (n := 1) (Nat.le_of_ble_eq_true rfl)
  rw [lg_entry_eq]
  generalize (lg_sl ([.int a0]) ++ List.replicate (1 - (lg_sl ([.int a0])).length) Slot.unset).toArray = ls at hl ⊢
  have hl : lv_has ls 1 [(0, .int a0)] := hl
  exact b_X0_signDerived_0    C0 a0 ls hl hf
theorem cw_X0_signDerived {R : Room} {s : State} {args : Array Value} {own : String} {index : Nat} (ht : ∀ w ∈ wd, w.before args s = true) (hlink : Cond.methodLink own index yX0_signDerived ∈ wd) (hR : rm_X0_signDerived.frames + 1 ≤ R.frames ∧ 8 + (1 + 11) + rm_X0_signDerived.locals ≤ R.locals) : CallB R s args own index yX0_signDerived cX0_signDerived 1 (some .int) (.code yX0_signDerived cX0_signDerived 1 (some .int) :: wd) rm_X0_signDerived 0 0 1 ∧ (Cond.static yX0_signDerived).before args s = true := cwS9 1 ht wi_609 wi_608 wi_68 hlink (by decide +kernel) rfl rfl hR
def rm_X0_signIntegrated : Room := { frames := 0, cells := 0, slots := 0, locals := 0 }
def f_X0_signIntegrated (a0 : Int32) : Option (Int32) := if ¬ a0 = (3 : Int32) then some (1 : Int32) else some (-1 : Int32)
set_option maxHeartbeats 4000000 in
set_option maxRecDepth 100000 in
theorem b_X0_signIntegrated_0 {p : Program} {l : Launch} {e : Env} {s : State} {m : MethodId} {args : Array Value} {below : List Frame} {meth : Method} {c : Code} {G : va_G} {cA : Nat → ClassId} (C0 : Amb p s m args meth c cX0_signIntegrated RX0 1 (some .int) G cA (fun _ : Nat => False) []) {res : Int32} : ∀ (a0 : Int32) (ls : Array Slot), lv_has ls 1 [(0, .int a0)] → f_X0_signIntegrated a0 = some res → W p l e rm_X0_signIntegrated s m args below meth c s.heap [] 0 0 (MQ below (vp_Si (fun x => x = res)) args s 0 0 (fun _ : Nat => False)) (F0 m 0 ls []) := by
  obtain ⟨hx, hb, hr, hml, hown, hts, hlocks, hK, hR, hRA⟩ := id C0
  intro a0 ls hl hf
  unfold f_X0_signIntegrated at hf
  refine lv_iload_n hx hb dX0_signIntegrated_0 rfl (lv_at hl 0 rfl) ?_
  refine lv_iconst (v := 3) hx hb dX0_signIntegrated_1 (by decide) ?_
  refine lv_icmp_ne (tgt := 9) hx hb dX0_signIntegrated_2 (by decide) (fun c_1 => ?_) (fun c_1 => ?_)
  · rw [if_pos (c_1)] at hf
    refine lv_iconst (v := 1) hx hb dX0_signIntegrated_9 (by decide) ?_
    cases hf
    exact W.iret hx hb hr (fun t ht hW => ⟨_, rfl, rfl, ht⟩) (fun q hq => by cases hq) dX0_signIntegrated_10 hlocks
  · rw [if_neg (not_not_intro c_1)] at hf
    refine lv_iconst (v := (-1)) hx hb dX0_signIntegrated_5 (by decide) ?_
    refine lv_goto (tgt := 10) hx hb dX0_signIntegrated_6 (by decide) ?_
    cases hf
    exact W.iret hx hb hr (fun t ht hW => ⟨_, rfl, rfl, ht⟩) (fun q hq => by cases hq) dX0_signIntegrated_10 hlocks

set_option maxRecDepth 100000 in
theorem m_X0_signIntegrated (l : Launch) (G : va_G) (cA : Nat → ClassId) (a0 : Int32) (res : Int32) (hf : f_X0_signIntegrated a0 = some res) : MRi l yX0_signIntegrated (.code yX0_signIntegrated cX0_signIntegrated 1 (some .int) :: wd) rm_X0_signIntegrated G cA [.int a0] [] res := by
  refine Met.ofW (cc := cX0_signIntegrated) (maxL := 1) (ret := (some .int)) (by decide) rfl ?_
  intro p e s m args below meth c s₁ B hml hv
  obtain ⟨rfl, hK, hR⟩ := hv
  have C0 : Amb p s m ([.int a0] : List Value).toArray meth c cX0_signIntegrated RX0 1 (some .int) G cA (fun _ : Nat => False) [] := ⟨B.exec, B.bytes, B.returns, hml, findClass_of_methodNamed B.named, fun w h => atoms_spec (ws := (.code yX0_signIntegrated cX0_signIntegrated 1 (some .int) :: wd)) B.pre w (List.mem_cons_of_mem _ h), B.notSynchronized, hK, hR, fun _ _ _ h => h⟩
  have hl := lv_entry ([.int a0]) (n := 1) (Nat.le_of_ble_eq_true rfl)
  rw [lg_entry_eq]
  generalize (lg_sl ([.int a0]) ++ List.replicate (1 - (lg_sl ([.int a0])).length) Slot.unset).toArray = ls at hl ⊢
  have hl : lv_has ls 1 [(0, .int a0)] := hl
  exact b_X0_signIntegrated_0    C0 a0 ls hl hf
theorem cw_X0_signIntegrated {R : Room} {s : State} {args : Array Value} {own : String} {index : Nat} (ht : ∀ w ∈ wd, w.before args s = true) (hlink : Cond.methodLink own index yX0_signIntegrated ∈ wd) (hR : rm_X0_signIntegrated.frames + 1 ≤ R.frames ∧ 8 + (1 + 11) + rm_X0_signIntegrated.locals ≤ R.locals) : CallB R s args own index yX0_signIntegrated cX0_signIntegrated 1 (some .int) (.code yX0_signIntegrated cX0_signIntegrated 1 (some .int) :: wd) rm_X0_signIntegrated 0 0 1 ∧ (Cond.static yX0_signIntegrated).before args s = true := cwS9 1 ht wi_629 wi_628 wi_68 hlink (by decide +kernel) rfl rfl hR
def rm_X0_putDerivative : Room := { frames := 4, cells := 0, slots := 0, locals := 118 }
def f_X0_putDerivative_122 (nS : Nat) (nA : Nat) (zA : SumS) (kb_2 : SumS → Int32 → Option (SumS)) (zS : SumS) (x2 : Int32) : Option (SumS) := kb_2 zS (x2 + 1)
set_option maxHeartbeats 4000000 in
set_option maxRecDepth 100000 in
theorem b_X0_putDerivative_122 {p : Program} {l : Launch} {e : Env} {s : State} {m : MethodId} {args : Array Value} {below : List Frame} {meth : Method} {c : Code} {G : va_G} {cA : Nat → ClassId} {W9 : va_W} (qS : Nat → Nat) (nS : Nat) (qA : Nat → Nat) (nA : Nat) (zA : SumS) (C0 : Amb p s m args meth c cX0_putDerivative RX0 10 none G cA (adr W9) ((wSum cA qA nA zA))) {res : SumS} (kb_2 : SumS → Int32 → Option (SumS)) (hkb_2 : ∀ (zS : SumS) (x2 : Int32) (H : Heap) (locs : List Loc) (ls : Array Slot), va_P G vwCl ((wSum cA qS nS zS)) H → va_D (adr W9) ((wSum cA qS nS zS)) → va_S (adr W9) s.heap H locs → lv_has ls 10 [(0, .ref (qS 0)), (1, .ref (qA 0)), (2, .int x2)] → kb_2 zS x2 = some res → W p l e rm_X0_putDerivative s m args below meth c H locs 0 0 (MQ below (qWv G W9 ((wSum cA qS nS res))) args s 0 0 (adr W9)) (F0 m 2 ls [])) : ∀ (zS : SumS) (x2 : Int32) (H : Heap) (locs : List Loc) (ls : Array Slot), va_P G vwCl ((wSum cA qS nS zS)) H → va_D (adr W9) ((wSum cA qS nS zS)) → va_S (adr W9) s.heap H locs → lv_has ls 10 [(0, .ref (qS 0)), (1, .ref (qA 0)), (2, .int x2)] → f_X0_putDerivative_122 nS nA zA kb_2 zS x2 = some res → W p l e rm_X0_putDerivative s m args below meth c H locs 0 0 (MQ below (qWv G W9 ((wSum cA qS nS res))) args s 0 0 (adr W9)) (F0 m 122 ls []) := by
  obtain ⟨hx, hb, hr, hml, hown, hts, hlocks, hK, hR, hRA⟩ := id C0
  intro zS x2 H locs ls hP hD hS hl hf
  unfold f_X0_putDerivative_122 at hf
  refine lv_iinc (v := (x2 + 1)) (lv' := [(2, .int (x2 + 1)), (0, .ref (qS 0)), (1, .ref (qA 0))]) hx hb dX0_putDerivative_122 hl (k := 2) rfl rfl (by decide) rfl (fun ls hl => ?_)
  refine lv_goto (tgt := 2) hx hb dX0_putDerivative_125 (by decide) ?_
  exact hkb_2 zS (x2 + 1) H locs ls hP hD hS (lv_sub hl [1, 2, 0] rfl) hf
def f_X0_putDerivative_2 (nS : Nat) (nA : Nat) (zA : SumS) : Nat → SumS → Int32 → Option (SumS)
  | 0, _, _ => none
  | fu + 1, zS, x2 => (f_X4_size nA zA).bind fun r_1 => if r_1 ≤ x2 then some zS else (f_X4_kindAt nA zA x2).bind fun r_3 => (f_X4_argumentAt nA zA x2).bind fun r_4 => (f_X4_powerAt nA zA x2).bind fun r_5 => (f_X4_topAt nA zA x2).bind fun r_6 => (f_X4_bottomAt nA zA x2).bind fun r_7 => (f_X4_put nS zS r_3 r_4 (r_5 - (1 : Int32)) (r_6 * r_5.toInt64) r_7).bind fun r_8 => if ¬ r_3 = (1 : Int32) then if r_3 = 0 then f_X0_putDerivative_122 nS nA zA (fun zS_ x2_ => f_X0_putDerivative_2 nS nA zA fu zS_ x2_) r_8 x2 else (f_X0_turned r_3).bind fun r_11 => (f_X0_signDerived r_3).bind fun r_12 => (f_X4_put nS r_8 r_11 r_4 r_5 ((r_6 * r_4.toInt64) * r_12.toInt64) r_7).bind fun r_13 => f_X0_putDerivative_122 nS nA zA (fun zS_ x2_ => f_X0_putDerivative_2 nS nA zA fu zS_ x2_) r_13 x2 else (f_X4_put nS r_8 (1 : Int32) (r_4 - (1 : Int32)) (r_5 - (1 : Int32)) (r_6 * r_4.toInt64) r_7).bind fun r_14 => f_X0_putDerivative_122 nS nA zA (fun zS_ x2_ => f_X0_putDerivative_2 nS nA zA fu zS_ x2_) r_14 x2
set_option maxHeartbeats 4000000 in
set_option maxRecDepth 100000 in
theorem b_X0_putDerivative_2 {p : Program} {l : Launch} {e : Env} {s : State} {m : MethodId} {args : Array Value} {below : List Frame} {meth : Method} {c : Code} {G : va_G} {cA : Nat → ClassId} {W9 : va_W} (qS : Nat → Nat) (nS : Nat) (qA : Nat → Nat) (nA : Nat) (zA : SumS) (C0 : Amb p s m args meth c cX0_putDerivative RX0 10 none G cA (adr W9) ((wSum cA qA nA zA))) {res : SumS} : ∀ (fu : Nat) (zS : SumS) (x2 : Int32) (H : Heap) (locs : List Loc) (ls : Array Slot), va_P G vwCl ((wSum cA qS nS zS)) H → va_D (adr W9) ((wSum cA qS nS zS)) → va_S (adr W9) s.heap H locs → lv_has ls 10 [(0, .ref (qS 0)), (1, .ref (qA 0)), (2, .int x2)] → f_X0_putDerivative_2 nS nA zA fu zS x2 = some res → W p l e rm_X0_putDerivative s m args below meth c H locs 0 0 (MQ below (qWv G W9 ((wSum cA qS nS res))) args s 0 0 (adr W9)) (F0 m 2 ls []) := by
  obtain ⟨hx, hb, hr, hml, hown, hts, hlocks, hK, hR, hRA⟩ := id C0
  intro fu
  induction fu with
  | zero =>
    intro zS x2 H locs ls hP hD hS hl hf
    rw [f_X0_putDerivative_2] at hf
    cases hf
  | succ fu ih =>
    intro zS x2 H locs ls hP hD hS hl hf
    rw [f_X0_putDerivative_2] at hf
    refine lv_iload_n hx hb dX0_putDerivative_2 rfl (lv_at hl 2 rfl) ?_
    refine lv_aload_n hx hb dX0_putDerivative_3 rfl (lv_at hl 1 rfl) ?_
    obtain ⟨r_1, hr_1, hf⟩ := obd hf
    refine cRiV (As := []) (rest := [.int x2]) ⟨hx, hb, hml, hown, hts⟩ (m_X4_size l G cA qA nA zA r_1 hr_1) (cw_X4_size hts wi_597 ⟨Nat.le_of_ble_eq_true rfl, Nat.le_of_ble_eq_true rfl⟩) hK (pk (roP hR hRA hS) [0, 1, 2, 3] rfl) (va_recv hK.1 (roP hR hRA hS) (ci := 2) (q0 := 0) rfl rfl) rfl hl.1 rfl (Nat.le_of_ble_eq_true rfl) dX0_putDerivative_4 ⟨Nat.zero_le _, Nat.zero_le _⟩ ?_
    refine lv_icmp_ge (tgt := 128) hx hb dX0_putDerivative_7 (by decide) (fun c_2 => ?_) (fun c_2 => ?_)
    · rw [if_pos (c_2)] at hf
      cases hf
      exact W.vret hx hb hr (fun t ht hW => ⟨⟨(), rfl, trivial, toT ht hP⟩, hS.F ht⟩) hS.2.2 dX0_putDerivative_128 hlocks
    · rw [if_neg (c_2)] at hf
      refine lv_aload_n hx hb dX0_putDerivative_10 rfl (lv_at hl 1 rfl) ?_
      refine lv_iload_n hx hb dX0_putDerivative_11 rfl (lv_at hl 2 rfl) ?_
      obtain ⟨r_3, hr_3, hf⟩ := obd hf
      refine cRiV (As := [.int x2]) (rest := []) ⟨hx, hb, hml, hown, hts⟩ (m_X4_kindAt l G cA qA nA zA x2 r_3 hr_3) (cw_X4_kindAt hts wi_598 ⟨Nat.le_of_ble_eq_true rfl, Nat.le_of_ble_eq_true rfl⟩) hK (pk (roP hR hRA hS) [0, 1, 2, 3] rfl) (va_recv hK.1 (roP hR hRA hS) (ci := 2) (q0 := 0) rfl rfl) rfl hl.1 rfl (Nat.le_of_ble_eq_true rfl) dX0_putDerivative_12 ⟨Nat.zero_le _, Nat.zero_le _⟩ ?_
      refine lv_istore_n (lv' := [(3, .int r_3), (0, .ref (qS 0)), (1, .ref (qA 0)), (2, .int x2)]) hx hb dX0_putDerivative_15 rfl hl (by decide) rfl (fun ls hl => ?_)
      refine lv_aload_n hx hb dX0_putDerivative_16 rfl (lv_at hl 2 rfl) ?_
      refine lv_iload_n hx hb dX0_putDerivative_17 rfl (lv_at hl 3 rfl) ?_
      obtain ⟨r_4, hr_4, hf⟩ := obd hf
      refine cRiV (As := [.int x2]) (rest := []) ⟨hx, hb, hml, hown, hts⟩ (m_X4_argumentAt l G cA qA nA zA x2 r_4 hr_4) (cw_X4_argumentAt hts wi_599 ⟨Nat.le_of_ble_eq_true rfl, Nat.le_of_ble_eq_true rfl⟩) hK (pk (roP hR hRA hS) [0, 1, 2, 3] rfl) (va_recv hK.1 (roP hR hRA hS) (ci := 2) (q0 := 0) rfl rfl) rfl hl.1 rfl (Nat.le_of_ble_eq_true rfl) dX0_putDerivative_18 ⟨Nat.zero_le _, Nat.zero_le _⟩ ?_
      refine lv_istore (lv' := [(4, .int r_4), (3, .int r_3), (0, .ref (qS 0)), (1, .ref (qA 0)), (2, .int x2)]) hx hb dX0_putDerivative_21 hl (by decide) rfl (fun ls hl => ?_)
      refine lv_aload_n hx hb dX0_putDerivative_23 rfl (lv_at hl 3 rfl) ?_
      refine lv_iload_n hx hb dX0_putDerivative_24 rfl (lv_at hl 4 rfl) ?_
      obtain ⟨r_5, hr_5, hf⟩ := obd hf
      refine cRiV (As := [.int x2]) (rest := []) ⟨hx, hb, hml, hown, hts⟩ (m_X4_powerAt l G cA qA nA zA x2 r_5 hr_5) (cw_X4_powerAt hts wi_600 ⟨Nat.le_of_ble_eq_true rfl, Nat.le_of_ble_eq_true rfl⟩) hK (pk (roP hR hRA hS) [0, 1, 2, 3] rfl) (va_recv hK.1 (roP hR hRA hS) (ci := 2) (q0 := 0) rfl rfl) rfl hl.1 rfl (Nat.le_of_ble_eq_true rfl) dX0_putDerivative_25 ⟨Nat.zero_le _, Nat.zero_le _⟩ ?_
      refine lv_istore (lv' := [(5, .int r_5), (4, .int r_4), (3, .int r_3), (0, .ref (qS 0)), (1, .ref (qA 0)), (2, .int x2)]) hx hb dX0_putDerivative_28 hl (by decide) rfl (fun ls hl => ?_)
      refine lv_aload_n hx hb dX0_putDerivative_30 rfl (lv_at hl 4 rfl) ?_
      refine lv_iload_n hx hb dX0_putDerivative_31 rfl (lv_at hl 5 rfl) ?_
      obtain ⟨r_6, hr_6, hf⟩ := obd hf
      refine cRlV (As := [.int x2]) (rest := []) ⟨hx, hb, hml, hown, hts⟩ (m_X4_topAt l G cA qA nA zA x2 r_6 hr_6) (cw_X4_topAt hts wi_601 ⟨Nat.le_of_ble_eq_true rfl, Nat.le_of_ble_eq_true rfl⟩) hK (pk (roP hR hRA hS) [0, 1, 2, 3] rfl) (va_recv hK.1 (roP hR hRA hS) (ci := 2) (q0 := 0) rfl rfl) rfl hl.1 rfl (Nat.le_of_ble_eq_true rfl) dX0_putDerivative_32 ⟨Nat.zero_le _, Nat.zero_le _⟩ ?_
      refine lv_lstore (lv' := [(6, .long r_6), (5, .int r_5), (4, .int r_4), (3, .int r_3), (0, .ref (qS 0)), (1, .ref (qA 0)), (2, .int x2)]) hx hb dX0_putDerivative_35 hl (by decide) rfl (fun ls hl => ?_)
      refine lv_aload_n hx hb dX0_putDerivative_37 rfl (lv_at hl 5 rfl) ?_
      refine lv_iload_n hx hb dX0_putDerivative_38 rfl (lv_at hl 6 rfl) ?_
      obtain ⟨r_7, hr_7, hf⟩ := obd hf
      refine cRlV (As := [.int x2]) (rest := []) ⟨hx, hb, hml, hown, hts⟩ (m_X4_bottomAt l G cA qA nA zA x2 r_7 hr_7) (cw_X4_bottomAt hts wi_602 ⟨Nat.le_of_ble_eq_true rfl, Nat.le_of_ble_eq_true rfl⟩) hK (pk (roP hR hRA hS) [0, 1, 2, 3] rfl) (va_recv hK.1 (roP hR hRA hS) (ci := 2) (q0 := 0) rfl rfl) rfl hl.1 rfl (Nat.le_of_ble_eq_true rfl) dX0_putDerivative_39 ⟨Nat.zero_le _, Nat.zero_le _⟩ ?_
      refine lv_lstore (lv' := [(8, .long r_7), (6, .long r_6), (5, .int r_5), (4, .int r_4), (3, .int r_3), (0, .ref (qS 0)), (1, .ref (qA 0)), (2, .int x2)]) hx hb dX0_putDerivative_42 hl (by decide) rfl (fun ls hl => ?_)
      refine lv_aload_n hx hb dX0_putDerivative_44 rfl (lv_at hl 5 rfl) ?_
      refine lv_iload_n hx hb dX0_putDerivative_45 rfl (lv_at hl 4 rfl) ?_
      refine lv_iload hx hb dX0_putDerivative_46 (lv_at hl 3 rfl) ?_
      refine lv_iload hx hb dX0_putDerivative_48 (lv_at hl 2 rfl) ?_
      refine lv_iconst (v := 1) hx hb dX0_putDerivative_50 (by decide) ?_
      refine lv_isub hx hb dX0_putDerivative_51 ?_
      refine lv_lload hx hb dX0_putDerivative_52 (lv_at hl 1 rfl) ?_
      refine lv_iload hx hb dX0_putDerivative_54 (lv_at hl 2 rfl) ?_
      refine lv_i2l (v := r_5.toInt64) hx hb dX0_putDerivative_56 rfl ?_
      refine lv_lmul hx hb dX0_putDerivative_57 ?_
      refine lv_lload hx hb dX0_putDerivative_58 (lv_at hl 0 rfl) ?_
      obtain ⟨r_8, hr_8, hf⟩ := obd hf
      refine cWvV (As := [.int r_3, .int r_4, .int (r_5 - (1 : Int32)), .long (r_6 * r_5.toInt64), .long r_7]) (rest := []) (W1 := ((wSum cA qS nS r_8))) ⟨hx, hb, hml, hown, hts⟩ (m_X4_put l G cA qS nS zS r_3 r_4 (r_5 - (1 : Int32)) (r_6 * r_5.toInt64) r_7 r_8 hr_8) (cw_X4_put hts wi_603 ⟨Nat.le_of_ble_eq_true rfl, Nat.le_of_ble_eq_true rfl⟩) hK hP hD hS [0, 1, 2, 3] [4, 5, 6, 7] rfl rfl rfl (by decide) rfl va_Pnil dj_nil (va_recv hK.1 hP (ci := 2) (q0 := 0) rfl rfl) rfl hl.1 rfl (Nat.le_of_ble_eq_true rfl) dX0_putDerivative_60 ⟨Nat.zero_le _, Nat.zero_le _⟩ (fun H locs hP hD hS => ?_)
      refine lv_iload_n hx hb dX0_putDerivative_63 rfl (lv_at hl 4 rfl) ?_
      refine lv_iconst (v := 1) hx hb dX0_putDerivative_64 (by decide) ?_
      refine lv_icmp_ne (tgt := 92) hx hb dX0_putDerivative_65 (by decide) (fun c_9 => ?_) (fun c_9 => ?_)
      · rw [if_pos (c_9)] at hf
        refine lv_iload_n hx hb dX0_putDerivative_92 rfl (lv_at hl 4 rfl) ?_
        refine lv_if_eq (tgt := 122) hx hb dX0_putDerivative_93 (by decide) (fun c_10 => ?_) (fun c_10 => ?_)
        · rw [if_pos (c_10)] at hf
          exact b_X0_putDerivative_122 qS nS qA nA  zA C0 (fun zS_ x2_ => f_X0_putDerivative_2 nS nA zA fu zS_ x2_) ih r_8 x2 H locs ls hP hD hS (lv_sub hl [5, 6, 7] rfl) hf
        · rw [if_neg (c_10)] at hf
          refine lv_aload_n hx hb dX0_putDerivative_96 rfl (lv_at hl 5 rfl) ?_
          refine lv_iload_n hx hb dX0_putDerivative_97 rfl (lv_at hl 4 rfl) ?_
          obtain ⟨r_11, hr_11, hf⟩ := obd hf
          refine cRiS (As := [.int r_3]) (rest := [.ref (qS 0)]) ⟨hx, hb, hml, hown, hts⟩ (m_X0_turned l G cA r_3 r_11 hr_11) (cw_X0_turned hts wi_604 ⟨Nat.le_of_ble_eq_true rfl, Nat.le_of_ble_eq_true rfl⟩) hK va_Pnil rfl hl.1 rfl (Nat.le_of_ble_eq_true rfl) dX0_putDerivative_98 ⟨Nat.zero_le _, Nat.zero_le _⟩ ?_
          refine lv_iload hx hb dX0_putDerivative_101 (lv_at hl 3 rfl) ?_
          refine lv_iload hx hb dX0_putDerivative_103 (lv_at hl 2 rfl) ?_
          refine lv_lload hx hb dX0_putDerivative_105 (lv_at hl 1 rfl) ?_
          refine lv_iload hx hb dX0_putDerivative_107 (lv_at hl 3 rfl) ?_
          refine lv_i2l (v := r_4.toInt64) hx hb dX0_putDerivative_109 rfl ?_
          refine lv_lmul hx hb dX0_putDerivative_110 ?_
          refine lv_iload_n hx hb dX0_putDerivative_111 rfl (lv_at hl 4 rfl) ?_
          obtain ⟨r_12, hr_12, hf⟩ := obd hf
          refine cRiS (As := [.int r_3]) (rest := [.long (r_6 * r_4.toInt64), .int r_5, .int r_4, .int r_11, .ref (qS 0)]) ⟨hx, hb, hml, hown, hts⟩ (m_X0_signDerived l G cA r_3 r_12 hr_12) (cw_X0_signDerived hts wi_607 ⟨Nat.le_of_ble_eq_true rfl, Nat.le_of_ble_eq_true rfl⟩) hK va_Pnil rfl hl.1 rfl (Nat.le_of_ble_eq_true rfl) dX0_putDerivative_112 ⟨Nat.zero_le _, Nat.zero_le _⟩ ?_
          refine lv_i2l (v := r_12.toInt64) hx hb dX0_putDerivative_115 rfl ?_
          refine lv_lmul hx hb dX0_putDerivative_116 ?_
          refine lv_lload hx hb dX0_putDerivative_117 (lv_at hl 0 rfl) ?_
          obtain ⟨r_13, hr_13, hf⟩ := obd hf
          refine cWvV (As := [.int r_11, .int r_4, .int r_5, .long ((r_6 * r_4.toInt64) * r_12.toInt64), .long r_7]) (rest := []) (W1 := ((wSum cA qS nS r_13))) ⟨hx, hb, hml, hown, hts⟩ (m_X4_put l G cA qS nS r_8 r_11 r_4 r_5 ((r_6 * r_4.toInt64) * r_12.toInt64) r_7 r_13 hr_13) (cw_X4_put hts wi_603 ⟨Nat.le_of_ble_eq_true rfl, Nat.le_of_ble_eq_true rfl⟩) hK hP hD hS [0, 1, 2, 3] [4, 5, 6, 7] rfl rfl rfl (by decide) rfl va_Pnil dj_nil (va_recv hK.1 hP (ci := 2) (q0 := 0) rfl rfl) rfl hl.1 rfl (Nat.le_of_ble_eq_true rfl) dX0_putDerivative_119 ⟨Nat.zero_le _, Nat.zero_le _⟩ (fun H locs hP hD hS => ?_)
          exact b_X0_putDerivative_122 qS nS qA nA  zA C0 (fun zS_ x2_ => f_X0_putDerivative_2 nS nA zA fu zS_ x2_) ih r_13 x2 H locs ls hP hD hS (lv_sub hl [5, 6, 7] rfl) hf
      · rw [if_neg (not_not_intro c_9)] at hf
        refine lv_aload_n hx hb dX0_putDerivative_68 rfl (lv_at hl 5 rfl) ?_
        refine lv_iconst (v := 1) hx hb dX0_putDerivative_69 (by decide) ?_
        refine lv_iload hx hb dX0_putDerivative_70 (lv_at hl 3 rfl) ?_
        refine lv_iconst (v := 1) hx hb dX0_putDerivative_72 (by decide) ?_
        refine lv_isub hx hb dX0_putDerivative_73 ?_
        refine lv_iload hx hb dX0_putDerivative_74 (lv_at hl 2 rfl) ?_
        refine lv_iconst (v := 1) hx hb dX0_putDerivative_76 (by decide) ?_
        refine lv_isub hx hb dX0_putDerivative_77 ?_
        refine lv_lload hx hb dX0_putDerivative_78 (lv_at hl 1 rfl) ?_
        refine lv_iload hx hb dX0_putDerivative_80 (lv_at hl 3 rfl) ?_
        refine lv_i2l (v := r_4.toInt64) hx hb dX0_putDerivative_82 rfl ?_
        refine lv_lmul hx hb dX0_putDerivative_83 ?_
        refine lv_lload hx hb dX0_putDerivative_84 (lv_at hl 0 rfl) ?_
        obtain ⟨r_14, hr_14, hf⟩ := obd hf
        refine cWvV (As := [.int (1 : Int32), .int (r_4 - (1 : Int32)), .int (r_5 - (1 : Int32)), .long (r_6 * r_4.toInt64), .long r_7]) (rest := []) (W1 := ((wSum cA qS nS r_14))) ⟨hx, hb, hml, hown, hts⟩ (m_X4_put l G cA qS nS r_8 (1 : Int32) (r_4 - (1 : Int32)) (r_5 - (1 : Int32)) (r_6 * r_4.toInt64) r_7 r_14 hr_14) (cw_X4_put hts wi_603 ⟨Nat.le_of_ble_eq_true rfl, Nat.le_of_ble_eq_true rfl⟩) hK hP hD hS [0, 1, 2, 3] [4, 5, 6, 7] rfl rfl rfl (by decide) rfl va_Pnil dj_nil (va_recv hK.1 hP (ci := 2) (q0 := 0) rfl rfl) rfl hl.1 rfl (Nat.le_of_ble_eq_true rfl) dX0_putDerivative_86 ⟨Nat.zero_le _, Nat.zero_le _⟩ (fun H locs hP hD hS => ?_)
        refine lv_goto (tgt := 122) hx hb dX0_putDerivative_89 (by decide) ?_
        exact b_X0_putDerivative_122 qS nS qA nA  zA C0 (fun zS_ x2_ => f_X0_putDerivative_2 nS nA zA fu zS_ x2_) ih r_14 x2 H locs ls hP hD hS (lv_sub hl [5, 6, 7] rfl) hf
def f_X0_putDerivative (nS : Nat) (nA : Nat) (zA : SumS) (zS : SumS) : Option (SumS) := f_X0_putDerivative_2 nS nA zA fuel zS (0 : Int32)
set_option maxHeartbeats 4000000 in
set_option maxRecDepth 100000 in
theorem b_X0_putDerivative_0 {p : Program} {l : Launch} {e : Env} {s : State} {m : MethodId} {args : Array Value} {below : List Frame} {meth : Method} {c : Code} {G : va_G} {cA : Nat → ClassId} {W9 : va_W} (qS : Nat → Nat) (nS : Nat) (qA : Nat → Nat) (nA : Nat) (zA : SumS) (C0 : Amb p s m args meth c cX0_putDerivative RX0 10 none G cA (adr W9) ((wSum cA qA nA zA))) {res : SumS} : ∀ (zS : SumS) (H : Heap) (locs : List Loc) (ls : Array Slot), va_P G vwCl ((wSum cA qS nS zS)) H → va_D (adr W9) ((wSum cA qS nS zS)) → va_S (adr W9) s.heap H locs → lv_has ls 10 [(0, .ref (qS 0)), (1, .ref (qA 0))] → f_X0_putDerivative nS nA zA zS = some res → W p l e rm_X0_putDerivative s m args below meth c H locs 0 0 (MQ below (qWv G W9 ((wSum cA qS nS res))) args s 0 0 (adr W9)) (F0 m 0 ls []) := by
  obtain ⟨hx, hb, hr, hml, hown, hts, hlocks, hK, hR, hRA⟩ := id C0
  intro zS H locs ls hP hD hS hl hf
  unfold f_X0_putDerivative at hf
  refine lv_iconst (v := 0) hx hb dX0_putDerivative_0 (by decide) ?_
  refine lv_istore_n (lv' := [(2, .int (0 : Int32)), (0, .ref (qS 0)), (1, .ref (qA 0))]) hx hb dX0_putDerivative_1 rfl hl (by decide) rfl (fun ls hl => ?_)
  exact b_X0_putDerivative_2 qS nS qA nA  zA C0  fuel zS (0 : Int32) H locs ls hP hD hS (lv_sub hl [1, 2, 0] rfl) hf

set_option maxRecDepth 100000 in
theorem m_X0_putDerivative (l : Launch) (G : va_G) (cA : Nat → ClassId) (qS : Nat → Nat) (nS : Nat) (qA : Nat → Nat) (nA : Nat) (zA : SumS) (zS : SumS) (res : SumS) (hf : f_X0_putDerivative nS nA zA zS = some res) : MWv l yX0_putDerivative (.code yX0_putDerivative cX0_putDerivative 10 none :: wd) rm_X0_putDerivative G cA [.ref (qS 0), .ref (qA 0)] ((wSum cA qS nS zS)) ((wSum cA qA nA zA)) ((wSum cA qS nS res)) := by
  refine Met.ofW (cc := cX0_putDerivative) (maxL := 10) (ret := none) (by decide) rfl ?_
  intro p e s m args below meth c s₁ B hml hv
  obtain ⟨rfl, hK, hP, hD0, hR, hRA⟩ := hv
  have C0 : Amb p s m ([.ref (qS 0), .ref (qA 0)] : List Value).toArray meth c cX0_putDerivative RX0 10 none G cA (adr ((wSum cA qS nS zS))) ((wSum cA qA nA zA)) := ⟨B.exec, B.bytes, B.returns, hml, findClass_of_methodNamed B.named, fun w h => atoms_spec (ws := (.code yX0_putDerivative cX0_putDerivative 10 none :: wd)) B.pre w (List.mem_cons_of_mem _ h), B.notSynchronized, hK, hR, hRA⟩
  have hl := lv_entry ([.ref (qS 0), .ref (qA 0)]) (n := 10) (Nat.le_of_ble_eq_true rfl)
  rw [lg_entry_eq]
  generalize (lg_sl ([.ref (qS 0), .ref (qA 0)]) ++ List.replicate (10 - (lg_sl ([.ref (qS 0), .ref (qA 0)])).length) Slot.unset).toArray = ls at hl ⊢
  have hl : lv_has ls 10 [(0, .ref (qS 0)), (1, .ref (qA 0))] := hl
  exact b_X0_putDerivative_0 (W9 := ((wSum cA qS nS zS))) qS nS qA nA  zA C0 zS s.heap [] ls hP (adr.self hD0) va_S.rf hl hf
theorem cw_X0_putDerivative {R : Room} {s : State} {args : Array Value} {own : String} {index : Nat} (ht : ∀ w ∈ wd, w.before args s = true) (hlink : Cond.methodLink own index yX0_putDerivative ∈ wd) (hR : rm_X0_putDerivative.frames + 1 ≤ R.frames ∧ 8 + (10 + 11) + rm_X0_putDerivative.locals ≤ R.locals) : CallB R s args own index yX0_putDerivative cX0_putDerivative 10 none (.code yX0_putDerivative cX0_putDerivative 10 none :: wd) rm_X0_putDerivative 0 0 2 ∧ (Cond.static yX0_putDerivative).before args s = true := cwS9 2 ht wi_596 wi_595 wi_68 hlink (by decide +kernel) rfl rfl hR
def rm_X0_integrateLog : Room := { frames := 4, cells := 0, slots := 0, locals := 118 }
def f_X0_integrateLog_33 (nS : Nat) : Nat → SumS → Int32 → Int64 → Int64 → Int32 → Option (SumS)
  | 0, _, _, _, _, _ => none
  | fu + 1, zS, x2, x7, x9, x11 => if x11 < 0 then some zS else (some ((x9 * (x2 + (1 : Int32)).toInt64))).bind fun y_2 => (f_X4_put nS zS (1 : Int32) x11 (x2 + (1 : Int32)) x7 y_2).bind fun r_3 => (some ((x7 * (-x11).toInt64))).bind fun y_4 => f_X0_integrateLog_33 nS fu r_3 x2 y_4 y_2 (x11 + (-1))
set_option maxHeartbeats 4000000 in
set_option maxRecDepth 100000 in
theorem b_X0_integrateLog_33 {p : Program} {l : Launch} {e : Env} {s : State} {m : MethodId} {args : Array Value} {below : List Frame} {meth : Method} {c : Code} {G : va_G} {cA : Nat → ClassId} {W9 : va_W} (qS : Nat → Nat) (nS : Nat) (C0 : Amb p s m args meth c cX0_integrateLog RX0 12 none G cA (adr W9) []) {res : SumS} : ∀ (fu : Nat) (zS : SumS) (x2 : Int32) (x7 : Int64) (x9 : Int64) (x11 : Int32) (H : Heap) (locs : List Loc) (ls : Array Slot), va_P G vwCl ((wSum cA qS nS zS)) H → va_D (adr W9) ((wSum cA qS nS zS)) → va_S (adr W9) s.heap H locs → lv_has ls 12 [(0, .ref (qS 0)), (2, .int x2), (7, .long x7), (9, .long x9), (11, .int x11)] → f_X0_integrateLog_33 nS fu zS x2 x7 x9 x11 = some res → W p l e rm_X0_integrateLog s m args below meth c H locs 0 0 (MQ below (qWv G W9 ((wSum cA qS nS res))) args s 0 0 (adr W9)) (F0 m 33 ls []) := by
  obtain ⟨hx, hb, hr, hml, hown, hts, hlocks, hK, hR, hRA⟩ := id C0
  intro fu
  induction fu with
  | zero =>
    intro zS x2 x7 x9 x11 H locs ls hP hD hS hl hf
    rw [f_X0_integrateLog_33] at hf
    cases hf
  | succ fu ih =>
    intro zS x2 x7 x9 x11 H locs ls hP hD hS hl hf
    rw [f_X0_integrateLog_33] at hf
    refine lv_iload hx hb dX0_integrateLog_33 (lv_at hl 4 rfl) ?_
    refine lv_if_lt (tgt := 76) hx hb dX0_integrateLog_35 (by decide) (fun c_1 => ?_) (fun c_1 => ?_)
    · rw [if_pos (c_1)] at hf
      cases hf
      exact W.vret hx hb hr (fun t ht hW => ⟨⟨(), rfl, trivial, toT ht hP⟩, hS.F ht⟩) hS.2.2 dX0_integrateLog_76 hlocks
    · rw [if_neg (c_1)] at hf
      refine lv_lload hx hb dX0_integrateLog_38 (lv_at hl 3 rfl) ?_
      refine lv_iload_n hx hb dX0_integrateLog_40 rfl (lv_at hl 1 rfl) ?_
      refine lv_iconst (v := 1) hx hb dX0_integrateLog_41 (by decide) ?_
      refine lv_iadd hx hb dX0_integrateLog_42 ?_
      refine lv_i2l (v := (x2 + (1 : Int32)).toInt64) hx hb dX0_integrateLog_43 rfl ?_
      refine lv_lmul hx hb dX0_integrateLog_44 ?_
      obtain ⟨y_2, hq, hf⟩ := obd hf
      have hy_2 : (x9 * (x2 + (1 : Int32)).toInt64) = y_2 := Option.some.inj hq
      rw [hy_2]
      refine lv_lstore (lv' := [(9, .long y_2), (0, .ref (qS 0)), (2, .int x2), (7, .long x7), (11, .int x11)]) hx hb dX0_integrateLog_45 hl (by decide) rfl (fun ls hl => ?_)
      refine lv_aload_n hx hb dX0_integrateLog_47 rfl (lv_at hl 1 rfl) ?_
      refine lv_iconst (v := 1) hx hb dX0_integrateLog_48 (by decide) ?_
      refine lv_iload hx hb dX0_integrateLog_49 (lv_at hl 4 rfl) ?_
      refine lv_iload_n hx hb dX0_integrateLog_51 rfl (lv_at hl 2 rfl) ?_
      refine lv_iconst (v := 1) hx hb dX0_integrateLog_52 (by decide) ?_
      refine lv_iadd hx hb dX0_integrateLog_53 ?_
      refine lv_lload hx hb dX0_integrateLog_54 (lv_at hl 3 rfl) ?_
      refine lv_lload hx hb dX0_integrateLog_56 (lv_at hl 0 rfl) ?_
      obtain ⟨r_3, hr_3, hf⟩ := obd hf
      refine cWvV (As := [.int (1 : Int32), .int x11, .int (x2 + (1 : Int32)), .long x7, .long y_2]) (rest := []) (W1 := ((wSum cA qS nS r_3))) ⟨hx, hb, hml, hown, hts⟩ (m_X4_put l G cA qS nS zS (1 : Int32) x11 (x2 + (1 : Int32)) x7 y_2 r_3 hr_3) (cw_X4_put hts wi_603 ⟨Nat.le_of_ble_eq_true rfl, Nat.le_of_ble_eq_true rfl⟩) hK hP hD hS [0, 1, 2, 3] [4, 5, 6, 7] rfl rfl rfl (by decide) rfl va_Pnil dj_nil (va_recv hK.1 hP (ci := 2) (q0 := 0) rfl rfl) rfl hl.1 rfl (Nat.le_of_ble_eq_true rfl) dX0_integrateLog_58 ⟨Nat.zero_le _, Nat.zero_le _⟩ (fun H locs hP hD hS => ?_)
      refine lv_lload hx hb dX0_integrateLog_61 (lv_at hl 3 rfl) ?_
      refine lv_iload hx hb dX0_integrateLog_63 (lv_at hl 4 rfl) ?_
      refine lv_ineg hx hb dX0_integrateLog_65 ?_
      refine lv_i2l (v := (-x11).toInt64) hx hb dX0_integrateLog_66 rfl ?_
      refine lv_lmul hx hb dX0_integrateLog_67 ?_
      obtain ⟨y_4, hq, hf⟩ := obd hf
      have hy_4 : (x7 * (-x11).toInt64) = y_4 := Option.some.inj hq
      rw [hy_4]
      refine lv_lstore (lv' := [(7, .long y_4), (9, .long y_2), (0, .ref (qS 0)), (2, .int x2), (11, .int x11)]) hx hb dX0_integrateLog_68 hl (by decide) rfl (fun ls hl => ?_)
      refine lv_iinc (v := (x11 + (-1))) (lv' := [(11, .int (x11 + (-1))), (7, .long y_4), (9, .long y_2), (0, .ref (qS 0)), (2, .int x2)]) hx hb dX0_integrateLog_70 hl (k := 4) rfl rfl (by decide) rfl (fun ls hl => ?_)
      refine lv_goto (tgt := 33) hx hb dX0_integrateLog_73 (by decide) ?_
      exact ih r_3 x2 y_4 y_2 (x11 + (-1)) H locs ls hP hD hS (lv_sub hl [3, 4, 1, 2, 0] rfl) hf
def f_X0_integrateLog (nS : Nat) (zS : SumS) (a1 : Int32) (a2 : Int32) (a3 : Int64) (a5 : Int64) : Option (SumS) := if ¬ a2 = (-1 : Int32) then f_X0_integrateLog_33 nS fuel zS a2 a3 a5 a1 else (f_X4_put nS zS (1 : Int32) (a1 + (1 : Int32)) (0 : Int32) a3 (a5 * (a1 + (1 : Int32)).toInt64)).bind fun r_2 => some r_2
set_option maxHeartbeats 4000000 in
set_option maxRecDepth 100000 in
theorem b_X0_integrateLog_0 {p : Program} {l : Launch} {e : Env} {s : State} {m : MethodId} {args : Array Value} {below : List Frame} {meth : Method} {c : Code} {G : va_G} {cA : Nat → ClassId} {W9 : va_W} (qS : Nat → Nat) (nS : Nat) (C0 : Amb p s m args meth c cX0_integrateLog RX0 12 none G cA (adr W9) []) {res : SumS} : ∀ (zS : SumS) (a1 : Int32) (a2 : Int32) (a3 : Int64) (a5 : Int64) (H : Heap) (locs : List Loc) (ls : Array Slot), va_P G vwCl ((wSum cA qS nS zS)) H → va_D (adr W9) ((wSum cA qS nS zS)) → va_S (adr W9) s.heap H locs → lv_has ls 12 [(0, .ref (qS 0)), (1, .int a1), (2, .int a2), (3, .long a3), (5, .long a5)] → f_X0_integrateLog nS zS a1 a2 a3 a5 = some res → W p l e rm_X0_integrateLog s m args below meth c H locs 0 0 (MQ below (qWv G W9 ((wSum cA qS nS res))) args s 0 0 (adr W9)) (F0 m 0 ls []) := by
  obtain ⟨hx, hb, hr, hml, hown, hts, hlocks, hK, hR, hRA⟩ := id C0
  intro zS a1 a2 a3 a5 H locs ls hP hD hS hl hf
  unfold f_X0_integrateLog at hf
  refine lv_iload_n hx hb dX0_integrateLog_0 rfl (lv_at hl 2 rfl) ?_
  refine lv_iconst (v := (-1)) hx hb dX0_integrateLog_1 (by decide) ?_
  refine lv_icmp_ne (tgt := 23) hx hb dX0_integrateLog_2 (by decide) (fun c_1 => ?_) (fun c_1 => ?_)
  · rw [if_pos (c_1)] at hf
    refine lv_lload_n hx hb dX0_integrateLog_23 rfl (lv_at hl 3 rfl) ?_
    refine lv_lstore (lv' := [(7, .long a3), (0, .ref (qS 0)), (1, .int a1), (2, .int a2), (3, .long a3), (5, .long a5)]) hx hb dX0_integrateLog_24 hl (by decide) rfl (fun ls hl => ?_)
    refine lv_lload hx hb dX0_integrateLog_26 (lv_at hl 5 rfl) ?_
    refine lv_lstore (lv' := [(9, .long a5), (7, .long a3), (0, .ref (qS 0)), (1, .int a1), (2, .int a2), (3, .long a3), (5, .long a5)]) hx hb dX0_integrateLog_28 hl (by decide) rfl (fun ls hl => ?_)
    refine lv_iload_n hx hb dX0_integrateLog_30 rfl (lv_at hl 3 rfl) ?_
    refine lv_istore (lv' := [(11, .int a1), (9, .long a5), (7, .long a3), (0, .ref (qS 0)), (1, .int a1), (2, .int a2), (3, .long a3), (5, .long a5)]) hx hb dX0_integrateLog_31 hl (by decide) rfl (fun ls hl => ?_)
    exact b_X0_integrateLog_33 qS nS   C0  fuel zS a2 a3 a5 a1 H locs ls hP hD hS (lv_sub hl [3, 5, 2, 1, 0] rfl) hf
  · rw [if_neg (not_not_intro c_1)] at hf
    refine lv_aload_n hx hb dX0_integrateLog_5 rfl (lv_at hl 0 rfl) ?_
    refine lv_iconst (v := 1) hx hb dX0_integrateLog_6 (by decide) ?_
    refine lv_iload_n hx hb dX0_integrateLog_7 rfl (lv_at hl 1 rfl) ?_
    refine lv_iconst (v := 1) hx hb dX0_integrateLog_8 (by decide) ?_
    refine lv_iadd hx hb dX0_integrateLog_9 ?_
    refine lv_iconst (v := 0) hx hb dX0_integrateLog_10 (by decide) ?_
    refine lv_lload_n hx hb dX0_integrateLog_11 rfl (lv_at hl 3 rfl) ?_
    refine lv_lload hx hb dX0_integrateLog_12 (lv_at hl 4 rfl) ?_
    refine lv_iload_n hx hb dX0_integrateLog_14 rfl (lv_at hl 1 rfl) ?_
    refine lv_iconst (v := 1) hx hb dX0_integrateLog_15 (by decide) ?_
    refine lv_iadd hx hb dX0_integrateLog_16 ?_
    refine lv_i2l (v := (a1 + (1 : Int32)).toInt64) hx hb dX0_integrateLog_17 rfl ?_
    refine lv_lmul hx hb dX0_integrateLog_18 ?_
    obtain ⟨r_2, hr_2, hf⟩ := obd hf
    refine cWvV (As := [.int (1 : Int32), .int (a1 + (1 : Int32)), .int (0 : Int32), .long a3, .long (a5 * (a1 + (1 : Int32)).toInt64)]) (rest := []) (W1 := ((wSum cA qS nS r_2))) ⟨hx, hb, hml, hown, hts⟩ (m_X4_put l G cA qS nS zS (1 : Int32) (a1 + (1 : Int32)) (0 : Int32) a3 (a5 * (a1 + (1 : Int32)).toInt64) r_2 hr_2) (cw_X4_put hts wi_603 ⟨Nat.le_of_ble_eq_true rfl, Nat.le_of_ble_eq_true rfl⟩) hK hP hD hS [0, 1, 2, 3] [4, 5, 6, 7] rfl rfl rfl (by decide) rfl va_Pnil dj_nil (va_recv hK.1 hP (ci := 2) (q0 := 0) rfl rfl) rfl hl.1 rfl (Nat.le_of_ble_eq_true rfl) dX0_integrateLog_19 ⟨Nat.zero_le _, Nat.zero_le _⟩ (fun H locs hP hD hS => ?_)
    cases hf
    exact W.vret hx hb hr (fun t ht hW => ⟨⟨(), rfl, trivial, toT ht hP⟩, hS.F ht⟩) hS.2.2 dX0_integrateLog_22 hlocks

set_option maxRecDepth 100000 in
theorem m_X0_integrateLog (l : Launch) (G : va_G) (cA : Nat → ClassId) (qS : Nat → Nat) (nS : Nat) (zS : SumS) (a1 : Int32) (a2 : Int32) (a3 : Int64) (a5 : Int64) (res : SumS) (hf : f_X0_integrateLog nS zS a1 a2 a3 a5 = some res) : MWv l yX0_integrateLog (.code yX0_integrateLog cX0_integrateLog 12 none :: wd) rm_X0_integrateLog G cA [.ref (qS 0), .int a1, .int a2, .long a3, .long a5] ((wSum cA qS nS zS)) [] ((wSum cA qS nS res)) := by
  refine Met.ofW (cc := cX0_integrateLog) (maxL := 12) (ret := none) (by decide) rfl ?_
  intro p e s m args below meth c s₁ B hml hv
  obtain ⟨rfl, hK, hP, hD0, hR, hRA⟩ := hv
  have C0 : Amb p s m ([.ref (qS 0), .int a1, .int a2, .long a3, .long a5] : List Value).toArray meth c cX0_integrateLog RX0 12 none G cA (adr ((wSum cA qS nS zS))) [] := ⟨B.exec, B.bytes, B.returns, hml, findClass_of_methodNamed B.named, fun w h => atoms_spec (ws := (.code yX0_integrateLog cX0_integrateLog 12 none :: wd)) B.pre w (List.mem_cons_of_mem _ h), B.notSynchronized, hK, hR, hRA⟩
  have hl := lv_entry ([.ref (qS 0), .int a1, .int a2, .long a3, .long a5]) (n := 12) (Nat.le_of_ble_eq_true rfl)
  rw [lg_entry_eq]
  generalize (lg_sl ([.ref (qS 0), .int a1, .int a2, .long a3, .long a5]) ++ List.replicate (12 - (lg_sl ([.ref (qS 0), .int a1, .int a2, .long a3, .long a5])).length) Slot.unset).toArray = ls at hl ⊢
  have hl : lv_has ls 12 [(0, .ref (qS 0)), (1, .int a1), (2, .int a2), (3, .long a3), (5, .long a5)] := hl
  exact b_X0_integrateLog_0 (W9 := ((wSum cA qS nS zS))) qS nS   C0 zS a1 a2 a3 a5 s.heap [] ls hP (adr.self hD0) va_S.rf hl hf
theorem cw_X0_integrateLog {R : Room} {s : State} {args : Array Value} {own : String} {index : Nat} (ht : ∀ w ∈ wd, w.before args s = true) (hlink : Cond.methodLink own index yX0_integrateLog ∈ wd) (hR : rm_X0_integrateLog.frames + 1 ≤ R.frames ∧ 8 + (12 + 11) + rm_X0_integrateLog.locals ≤ R.locals) : CallB R s args own index yX0_integrateLog cX0_integrateLog 12 none (.code yX0_integrateLog cX0_integrateLog 12 none :: wd) rm_X0_integrateLog 0 0 5 ∧ (Cond.static yX0_integrateLog).before args s = true := cwS9 5 ht wi_623 wi_622 wi_68 hlink (by decide +kernel) rfl rfl hR
def rm_X0_lowerPower : Room := { frames := 4, cells := 0, slots := 0, locals := 118 }
def f_X0_lowerPower_14 (nS : Nat) : Nat → SumS → Int32 → Int32 → Int64 → Int64 → Int32 → Option (SumS)
  | 0, _, _, _, _, _, _ => none
  | fu + 1, zS, x2, x8, x9, x11, x13 => if x13 < 0 then some zS else (f_X0_signIntegrated x8).bind fun r_2 => (some ((x9 * r_2.toInt64))).bind fun y_3 => (some ((x11 * x2.toInt64))).bind fun y_4 => (f_X0_turned x8).bind fun r_5 => (f_X4_put nS zS r_5 x2 x13 y_3 y_4).bind fun r_6 => (some ((y_3 * (-x13).toInt64))).bind fun y_7 => f_X0_lowerPower_14 nS fu r_6 x2 r_5 y_7 y_4 (x13 + (-1))
set_option maxHeartbeats 4000000 in
set_option maxRecDepth 100000 in
theorem b_X0_lowerPower_14 {p : Program} {l : Launch} {e : Env} {s : State} {m : MethodId} {args : Array Value} {below : List Frame} {meth : Method} {c : Code} {G : va_G} {cA : Nat → ClassId} {W9 : va_W} (qS : Nat → Nat) (nS : Nat) (C0 : Amb p s m args meth c cX0_lowerPower RX0 14 none G cA (adr W9) []) {res : SumS} : ∀ (fu : Nat) (zS : SumS) (x2 : Int32) (x8 : Int32) (x9 : Int64) (x11 : Int64) (x13 : Int32) (H : Heap) (locs : List Loc) (ls : Array Slot), va_P G vwCl ((wSum cA qS nS zS)) H → va_D (adr W9) ((wSum cA qS nS zS)) → va_S (adr W9) s.heap H locs → lv_has ls 14 [(0, .ref (qS 0)), (2, .int x2), (8, .int x8), (9, .long x9), (11, .long x11), (13, .int x13)] → f_X0_lowerPower_14 nS fu zS x2 x8 x9 x11 x13 = some res → W p l e rm_X0_lowerPower s m args below meth c H locs 0 0 (MQ below (qWv G W9 ((wSum cA qS nS res))) args s 0 0 (adr W9)) (F0 m 14 ls []) := by
  obtain ⟨hx, hb, hr, hml, hown, hts, hlocks, hK, hR, hRA⟩ := id C0
  intro fu
  induction fu with
  | zero =>
    intro zS x2 x8 x9 x11 x13 H locs ls hP hD hS hl hf
    rw [f_X0_lowerPower_14] at hf
    cases hf
  | succ fu ih =>
    intro zS x2 x8 x9 x11 x13 H locs ls hP hD hS hl hf
    rw [f_X0_lowerPower_14] at hf
    refine lv_iload hx hb dX0_lowerPower_14 (lv_at hl 5 rfl) ?_
    refine lv_if_lt (tgt := 72) hx hb dX0_lowerPower_16 (by decide) (fun c_1 => ?_) (fun c_1 => ?_)
    · rw [if_pos (c_1)] at hf
      cases hf
      exact W.vret hx hb hr (fun t ht hW => ⟨⟨(), rfl, trivial, toT ht hP⟩, hS.F ht⟩) hS.2.2 dX0_lowerPower_72 hlocks
    · rw [if_neg (c_1)] at hf
      refine lv_lload hx hb dX0_lowerPower_19 (lv_at hl 3 rfl) ?_
      refine lv_iload hx hb dX0_lowerPower_21 (lv_at hl 2 rfl) ?_
      obtain ⟨r_2, hr_2, hf⟩ := obd hf
      refine cRiS (As := [.int x8]) (rest := [.long x9]) ⟨hx, hb, hml, hown, hts⟩ (m_X0_signIntegrated l G cA x8 r_2 hr_2) (cw_X0_signIntegrated hts wi_627 ⟨Nat.le_of_ble_eq_true rfl, Nat.le_of_ble_eq_true rfl⟩) hK va_Pnil rfl hl.1 rfl (Nat.le_of_ble_eq_true rfl) dX0_lowerPower_23 ⟨Nat.zero_le _, Nat.zero_le _⟩ ?_
      refine lv_i2l (v := r_2.toInt64) hx hb dX0_lowerPower_26 rfl ?_
      refine lv_lmul hx hb dX0_lowerPower_27 ?_
      obtain ⟨y_3, hq, hf⟩ := obd hf
      have hy_3 : (x9 * r_2.toInt64) = y_3 := Option.some.inj hq
      rw [hy_3]
      refine lv_lstore (lv' := [(9, .long y_3), (0, .ref (qS 0)), (2, .int x2), (8, .int x8), (11, .long x11), (13, .int x13)]) hx hb dX0_lowerPower_28 hl (by decide) rfl (fun ls hl => ?_)
      refine lv_lload hx hb dX0_lowerPower_30 (lv_at hl 4 rfl) ?_
      refine lv_iload_n hx hb dX0_lowerPower_32 rfl (lv_at hl 2 rfl) ?_
      refine lv_i2l (v := x2.toInt64) hx hb dX0_lowerPower_33 rfl ?_
      refine lv_lmul hx hb dX0_lowerPower_34 ?_
      obtain ⟨y_4, hq, hf⟩ := obd hf
      have hy_4 : (x11 * x2.toInt64) = y_4 := Option.some.inj hq
      rw [hy_4]
      refine lv_lstore (lv' := [(11, .long y_4), (9, .long y_3), (0, .ref (qS 0)), (2, .int x2), (8, .int x8), (13, .int x13)]) hx hb dX0_lowerPower_35 hl (by decide) rfl (fun ls hl => ?_)
      refine lv_iload hx hb dX0_lowerPower_37 (lv_at hl 4 rfl) ?_
      obtain ⟨r_5, hr_5, hf⟩ := obd hf
      refine cRiS (As := [.int x8]) (rest := []) ⟨hx, hb, hml, hown, hts⟩ (m_X0_turned l G cA x8 r_5 hr_5) (cw_X0_turned hts wi_604 ⟨Nat.le_of_ble_eq_true rfl, Nat.le_of_ble_eq_true rfl⟩) hK va_Pnil rfl hl.1 rfl (Nat.le_of_ble_eq_true rfl) dX0_lowerPower_39 ⟨Nat.zero_le _, Nat.zero_le _⟩ ?_
      refine lv_istore (lv' := [(8, .int r_5), (11, .long y_4), (9, .long y_3), (0, .ref (qS 0)), (2, .int x2), (13, .int x13)]) hx hb dX0_lowerPower_42 hl (by decide) rfl (fun ls hl => ?_)
      refine lv_aload_n hx hb dX0_lowerPower_44 rfl (lv_at hl 3 rfl) ?_
      refine lv_iload hx hb dX0_lowerPower_45 (lv_at hl 0 rfl) ?_
      refine lv_iload_n hx hb dX0_lowerPower_47 rfl (lv_at hl 4 rfl) ?_
      refine lv_iload hx hb dX0_lowerPower_48 (lv_at hl 5 rfl) ?_
      refine lv_lload hx hb dX0_lowerPower_50 (lv_at hl 2 rfl) ?_
      refine lv_lload hx hb dX0_lowerPower_52 (lv_at hl 1 rfl) ?_
      obtain ⟨r_6, hr_6, hf⟩ := obd hf
      refine cWvV (As := [.int r_5, .int x2, .int x13, .long y_3, .long y_4]) (rest := []) (W1 := ((wSum cA qS nS r_6))) ⟨hx, hb, hml, hown, hts⟩ (m_X4_put l G cA qS nS zS r_5 x2 x13 y_3 y_4 r_6 hr_6) (cw_X4_put hts wi_603 ⟨Nat.le_of_ble_eq_true rfl, Nat.le_of_ble_eq_true rfl⟩) hK hP hD hS [0, 1, 2, 3] [4, 5, 6, 7] rfl rfl rfl (by decide) rfl va_Pnil dj_nil (va_recv hK.1 hP (ci := 2) (q0 := 0) rfl rfl) rfl hl.1 rfl (Nat.le_of_ble_eq_true rfl) dX0_lowerPower_54 ⟨Nat.zero_le _, Nat.zero_le _⟩ (fun H locs hP hD hS => ?_)
      refine lv_lload hx hb dX0_lowerPower_57 (lv_at hl 2 rfl) ?_
      refine lv_iload hx hb dX0_lowerPower_59 (lv_at hl 5 rfl) ?_
      refine lv_ineg hx hb dX0_lowerPower_61 ?_
      refine lv_i2l (v := (-x13).toInt64) hx hb dX0_lowerPower_62 rfl ?_
      refine lv_lmul hx hb dX0_lowerPower_63 ?_
      obtain ⟨y_7, hq, hf⟩ := obd hf
      have hy_7 : (y_3 * (-x13).toInt64) = y_7 := Option.some.inj hq
      rw [hy_7]
      refine lv_lstore (lv' := [(9, .long y_7), (8, .int r_5), (11, .long y_4), (0, .ref (qS 0)), (2, .int x2), (13, .int x13)]) hx hb dX0_lowerPower_64 hl (by decide) rfl (fun ls hl => ?_)
      refine lv_iinc (v := (x13 + (-1))) (lv' := [(13, .int (x13 + (-1))), (9, .long y_7), (8, .int r_5), (11, .long y_4), (0, .ref (qS 0)), (2, .int x2)]) hx hb dX0_lowerPower_66 hl (k := 5) rfl rfl (by decide) rfl (fun ls hl => ?_)
      refine lv_goto (tgt := 14) hx hb dX0_lowerPower_69 (by decide) ?_
      exact ih r_6 x2 r_5 y_7 y_4 (x13 + (-1)) H locs ls hP hD hS (lv_sub hl [4, 5, 2, 1, 3, 0] rfl) hf
def f_X0_lowerPower (nS : Nat) (zS : SumS) (a1 : Int32) (a2 : Int32) (a3 : Int32) (a4 : Int64) (a6 : Int64) : Option (SumS) := f_X0_lowerPower_14 nS fuel zS a2 a1 a4 a6 a3
set_option maxHeartbeats 4000000 in
set_option maxRecDepth 100000 in
theorem b_X0_lowerPower_0 {p : Program} {l : Launch} {e : Env} {s : State} {m : MethodId} {args : Array Value} {below : List Frame} {meth : Method} {c : Code} {G : va_G} {cA : Nat → ClassId} {W9 : va_W} (qS : Nat → Nat) (nS : Nat) (C0 : Amb p s m args meth c cX0_lowerPower RX0 14 none G cA (adr W9) []) {res : SumS} : ∀ (zS : SumS) (a1 : Int32) (a2 : Int32) (a3 : Int32) (a4 : Int64) (a6 : Int64) (H : Heap) (locs : List Loc) (ls : Array Slot), va_P G vwCl ((wSum cA qS nS zS)) H → va_D (adr W9) ((wSum cA qS nS zS)) → va_S (adr W9) s.heap H locs → lv_has ls 14 [(0, .ref (qS 0)), (1, .int a1), (2, .int a2), (3, .int a3), (4, .long a4), (6, .long a6)] → f_X0_lowerPower nS zS a1 a2 a3 a4 a6 = some res → W p l e rm_X0_lowerPower s m args below meth c H locs 0 0 (MQ below (qWv G W9 ((wSum cA qS nS res))) args s 0 0 (adr W9)) (F0 m 0 ls []) := by
  obtain ⟨hx, hb, hr, hml, hown, hts, hlocks, hK, hR, hRA⟩ := id C0
  intro zS a1 a2 a3 a4 a6 H locs ls hP hD hS hl hf
  unfold f_X0_lowerPower at hf
  refine lv_iload_n hx hb dX0_lowerPower_0 rfl (lv_at hl 1 rfl) ?_
  refine lv_istore (lv' := [(8, .int a1), (0, .ref (qS 0)), (1, .int a1), (2, .int a2), (3, .int a3), (4, .long a4), (6, .long a6)]) hx hb dX0_lowerPower_1 hl (by decide) rfl (fun ls hl => ?_)
  refine lv_lload hx hb dX0_lowerPower_3 (lv_at hl 5 rfl) ?_
  refine lv_lstore (lv' := [(9, .long a4), (8, .int a1), (0, .ref (qS 0)), (1, .int a1), (2, .int a2), (3, .int a3), (4, .long a4), (6, .long a6)]) hx hb dX0_lowerPower_5 hl (by decide) rfl (fun ls hl => ?_)
  refine lv_lload hx hb dX0_lowerPower_7 (lv_at hl 7 rfl) ?_
  refine lv_lstore (lv' := [(11, .long a6), (9, .long a4), (8, .int a1), (0, .ref (qS 0)), (1, .int a1), (2, .int a2), (3, .int a3), (4, .long a4), (6, .long a6)]) hx hb dX0_lowerPower_9 hl (by decide) rfl (fun ls hl => ?_)
  refine lv_iload_n hx hb dX0_lowerPower_11 rfl (lv_at hl 6 rfl) ?_
  refine lv_istore (lv' := [(13, .int a3), (11, .long a6), (9, .long a4), (8, .int a1), (0, .ref (qS 0)), (1, .int a1), (2, .int a2), (3, .int a3), (4, .long a4), (6, .long a6)]) hx hb dX0_lowerPower_12 hl (by decide) rfl (fun ls hl => ?_)
  exact b_X0_lowerPower_14 qS nS   C0  fuel zS a2 a1 a4 a6 a3 H locs ls hP hD hS (lv_sub hl [4, 6, 3, 2, 1, 0] rfl) hf

set_option maxRecDepth 100000 in
theorem m_X0_lowerPower (l : Launch) (G : va_G) (cA : Nat → ClassId) (qS : Nat → Nat) (nS : Nat) (zS : SumS) (a1 : Int32) (a2 : Int32) (a3 : Int32) (a4 : Int64) (a6 : Int64) (res : SumS) (hf : f_X0_lowerPower nS zS a1 a2 a3 a4 a6 = some res) : MWv l yX0_lowerPower (.code yX0_lowerPower cX0_lowerPower 14 none :: wd) rm_X0_lowerPower G cA [.ref (qS 0), .int a1, .int a2, .int a3, .long a4, .long a6] ((wSum cA qS nS zS)) [] ((wSum cA qS nS res)) := by
  refine Met.ofW (cc := cX0_lowerPower) (maxL := 14) (ret := none) (by decide) rfl ?_
  intro p e s m args below meth c s₁ B hml hv
  obtain ⟨rfl, hK, hP, hD0, hR, hRA⟩ := hv
  have C0 : Amb p s m ([.ref (qS 0), .int a1, .int a2, .int a3, .long a4, .long a6] : List Value).toArray meth c cX0_lowerPower RX0 14 none G cA (adr ((wSum cA qS nS zS))) [] := ⟨B.exec, B.bytes, B.returns, hml, findClass_of_methodNamed B.named, fun w h => atoms_spec (ws := (.code yX0_lowerPower cX0_lowerPower 14 none :: wd)) B.pre w (List.mem_cons_of_mem _ h), B.notSynchronized, hK, hR, hRA⟩
  have hl := lv_entry ([.ref (qS 0), .int a1, .int a2, .int a3, .long a4, .long a6]) (n := 14) (Nat.le_of_ble_eq_true rfl)
  rw [lg_entry_eq]
  generalize (lg_sl ([.ref (qS 0), .int a1, .int a2, .int a3, .long a4, .long a6]) ++ List.replicate (14 - (lg_sl ([.ref (qS 0), .int a1, .int a2, .int a3, .long a4, .long a6])).length) Slot.unset).toArray = ls at hl ⊢
  have hl : lv_has ls 14 [(0, .ref (qS 0)), (1, .int a1), (2, .int a2), (3, .int a3), (4, .long a4), (6, .long a6)] := hl
  exact b_X0_lowerPower_0 (W9 := ((wSum cA qS nS zS))) qS nS   C0 zS a1 a2 a3 a4 a6 s.heap [] ls hP (adr.self hD0) va_S.rf hl hf
theorem cw_X0_lowerPower {R : Room} {s : State} {args : Array Value} {own : String} {index : Nat} (ht : ∀ w ∈ wd, w.before args s = true) (hlink : Cond.methodLink own index yX0_lowerPower ∈ wd) (hR : rm_X0_lowerPower.frames + 1 ≤ R.frames ∧ 8 + (14 + 11) + rm_X0_lowerPower.locals ≤ R.locals) : CallB R s args own index yX0_lowerPower cX0_lowerPower 14 none (.code yX0_lowerPower cX0_lowerPower 14 none :: wd) rm_X0_lowerPower 0 0 6 ∧ (Cond.static yX0_lowerPower).before args s = true := cwS9 6 ht wi_626 wi_625 wi_68 hlink (by decide +kernel) rfl rfl hR
def rm_X0_raisePower : Room := { frames := 4, cells := 0, slots := 0, locals := 118 }
def f_X0_raisePower_15 (nS : Nat) (nE : Nat) : Nat → SumS → SumS → Int32 → Int32 → Int64 → Int64 → Int32 → Option (SumS × SumS)
  | 0, _, _, _, _, _, _, _ => none
  | fu + 1, zS, zE, x3, x9, x10, x12, x14 => if (-1 : Int32) ≤ x14 then (f_X4_put nE zE x9 x3 (-1 : Int32) x10 x12).bind fun r_2 => some (zS, r_2) else (some ((x12 * (x14 + (1 : Int32)).toInt64))).bind fun y_3 => (f_X4_put nS zS x9 x3 (x14 + (1 : Int32)) x10 y_3).bind fun r_4 => (f_X0_signDerived x9).bind fun r_5 => (some ((x10 * ((-x3) * r_5).toInt64))).bind fun y_6 => (f_X0_turned x9).bind fun r_7 => f_X0_raisePower_15 nS nE fu r_4 zE x3 r_7 y_6 y_3 (x14 + 1)
set_option maxHeartbeats 4000000 in
set_option maxRecDepth 100000 in
theorem b_X0_raisePower_15 {p : Program} {l : Launch} {e : Env} {s : State} {m : MethodId} {args : Array Value} {below : List Frame} {meth : Method} {c : Code} {G : va_G} {cA : Nat → ClassId} {W9 : va_W} (qS : Nat → Nat) (nS : Nat) (qE : Nat → Nat) (nE : Nat) (C0 : Amb p s m args meth c cX0_raisePower RX0 15 none G cA (adr W9) []) {res : SumS × SumS} : ∀ (fu : Nat) (zS : SumS) (zE : SumS) (x3 : Int32) (x9 : Int32) (x10 : Int64) (x12 : Int64) (x14 : Int32) (H : Heap) (locs : List Loc) (ls : Array Slot), va_P G vwCl ((wSum cA qS nS zS) ++ (wSum cA qE nE zE)) H → va_D (adr W9) ((wSum cA qS nS zS) ++ (wSum cA qE nE zE)) → va_S (adr W9) s.heap H locs → lv_has ls 15 [(0, .ref (qS 0)), (1, .ref (qE 0)), (3, .int x3), (9, .int x9), (10, .long x10), (12, .long x12), (14, .int x14)] → f_X0_raisePower_15 nS nE fu zS zE x3 x9 x10 x12 x14 = some res → W p l e rm_X0_raisePower s m args below meth c H locs 0 0 (MQ below (qWv G W9 ((wSum cA qS nS res.1) ++ (wSum cA qE nE res.2))) args s 0 0 (adr W9)) (F0 m 15 ls []) := by
  obtain ⟨hx, hb, hr, hml, hown, hts, hlocks, hK, hR, hRA⟩ := id C0
  intro fu
  induction fu with
  | zero =>
    intro zS zE x3 x9 x10 x12 x14 H locs ls hP hD hS hl hf
    rw [f_X0_raisePower_15] at hf
    cases hf
  | succ fu ih =>
    intro zS zE x3 x9 x10 x12 x14 H locs ls hP hD hS hl hf
    rw [f_X0_raisePower_15] at hf
    refine lv_iload hx hb dX0_raisePower_15 (lv_at hl 6 rfl) ?_
    refine lv_iconst (v := (-1)) hx hb dX0_raisePower_17 (by decide) ?_
    refine lv_icmp_ge (tgt := 73) hx hb dX0_raisePower_18 (by decide) (fun c_1 => ?_) (fun c_1 => ?_)
    · rw [if_pos (c_1)] at hf
      refine lv_aload_n hx hb dX0_raisePower_73 rfl (lv_at hl 1 rfl) ?_
      refine lv_iload hx hb dX0_raisePower_74 (lv_at hl 3 rfl) ?_
      refine lv_iload_n hx hb dX0_raisePower_76 rfl (lv_at hl 2 rfl) ?_
      refine lv_iconst (v := (-1)) hx hb dX0_raisePower_77 (by decide) ?_
      refine lv_lload hx hb dX0_raisePower_78 (lv_at hl 4 rfl) ?_
      refine lv_lload hx hb dX0_raisePower_80 (lv_at hl 5 rfl) ?_
      obtain ⟨r_2, hr_2, hf⟩ := obd hf
      refine cWvV (As := [.int x9, .int x3, .int (-1 : Int32), .long x10, .long x12]) (rest := []) (W1 := ((wSum cA qS nS zS) ++ (wSum cA qE nE r_2))) ⟨hx, hb, hml, hown, hts⟩ (m_X4_put l G cA qE nE zE x9 x3 (-1 : Int32) x10 x12 r_2 hr_2) (cw_X4_put hts wi_603 ⟨Nat.le_of_ble_eq_true rfl, Nat.le_of_ble_eq_true rfl⟩) hK hP hD hS [4, 5, 6, 7] [0, 1, 2, 3, 8, 9, 10, 11] rfl rfl rfl (by decide) rfl va_Pnil dj_nil (va_recv hK.1 hP (ci := 2) (q0 := 4) rfl rfl) rfl hl.1 rfl (Nat.le_of_ble_eq_true rfl) dX0_raisePower_82 ⟨Nat.zero_le _, Nat.zero_le _⟩ (fun H locs hP hD hS => ?_)
      cases hf
      exact W.vret hx hb hr (fun t ht hW => ⟨⟨(), rfl, trivial, toT ht hP⟩, hS.F ht⟩) hS.2.2 dX0_raisePower_85 hlocks
    · rw [if_neg (c_1)] at hf
      refine lv_lload hx hb dX0_raisePower_21 (lv_at hl 5 rfl) ?_
      refine lv_iload hx hb dX0_raisePower_23 (lv_at hl 6 rfl) ?_
      refine lv_iconst (v := 1) hx hb dX0_raisePower_25 (by decide) ?_
      refine lv_iadd hx hb dX0_raisePower_26 ?_
      refine lv_i2l (v := (x14 + (1 : Int32)).toInt64) hx hb dX0_raisePower_27 rfl ?_
      refine lv_lmul hx hb dX0_raisePower_28 ?_
      obtain ⟨y_3, hq, hf⟩ := obd hf
      have hy_3 : (x12 * (x14 + (1 : Int32)).toInt64) = y_3 := Option.some.inj hq
      rw [hy_3]
      refine lv_lstore (lv' := [(12, .long y_3), (0, .ref (qS 0)), (1, .ref (qE 0)), (3, .int x3), (9, .int x9), (10, .long x10), (14, .int x14)]) hx hb dX0_raisePower_29 hl (by decide) rfl (fun ls hl => ?_)
      refine lv_aload_n hx hb dX0_raisePower_31 rfl (lv_at hl 1 rfl) ?_
      refine lv_iload hx hb dX0_raisePower_32 (lv_at hl 4 rfl) ?_
      refine lv_iload_n hx hb dX0_raisePower_34 rfl (lv_at hl 3 rfl) ?_
      refine lv_iload hx hb dX0_raisePower_35 (lv_at hl 6 rfl) ?_
      refine lv_iconst (v := 1) hx hb dX0_raisePower_37 (by decide) ?_
      refine lv_iadd hx hb dX0_raisePower_38 ?_
      refine lv_lload hx hb dX0_raisePower_39 (lv_at hl 5 rfl) ?_
      refine lv_lload hx hb dX0_raisePower_41 (lv_at hl 0 rfl) ?_
      obtain ⟨r_4, hr_4, hf⟩ := obd hf
      refine cWvV (As := [.int x9, .int x3, .int (x14 + (1 : Int32)), .long x10, .long y_3]) (rest := []) (W1 := ((wSum cA qS nS r_4) ++ (wSum cA qE nE zE))) ⟨hx, hb, hml, hown, hts⟩ (m_X4_put l G cA qS nS zS x9 x3 (x14 + (1 : Int32)) x10 y_3 r_4 hr_4) (cw_X4_put hts wi_603 ⟨Nat.le_of_ble_eq_true rfl, Nat.le_of_ble_eq_true rfl⟩) hK hP hD hS [0, 1, 2, 3] [8, 9, 10, 11, 4, 5, 6, 7] rfl rfl rfl (by decide) rfl va_Pnil dj_nil (va_recv hK.1 hP (ci := 2) (q0 := 0) rfl rfl) rfl hl.1 rfl (Nat.le_of_ble_eq_true rfl) dX0_raisePower_43 ⟨Nat.zero_le _, Nat.zero_le _⟩ (fun H locs hP hD hS => ?_)
      refine lv_lload hx hb dX0_raisePower_46 (lv_at hl 5 rfl) ?_
      refine lv_iload_n hx hb dX0_raisePower_48 rfl (lv_at hl 3 rfl) ?_
      refine lv_ineg hx hb dX0_raisePower_49 ?_
      refine lv_iload hx hb dX0_raisePower_50 (lv_at hl 4 rfl) ?_
      obtain ⟨r_5, hr_5, hf⟩ := obd hf
      refine cRiS (As := [.int x9]) (rest := [.int (-x3), .long x10]) ⟨hx, hb, hml, hown, hts⟩ (m_X0_signDerived l G cA x9 r_5 hr_5) (cw_X0_signDerived hts wi_607 ⟨Nat.le_of_ble_eq_true rfl, Nat.le_of_ble_eq_true rfl⟩) hK va_Pnil rfl hl.1 rfl (Nat.le_of_ble_eq_true rfl) dX0_raisePower_52 ⟨Nat.zero_le _, Nat.zero_le _⟩ ?_
      refine lv_imul hx hb dX0_raisePower_55 ?_
      refine lv_i2l (v := ((-x3) * r_5).toInt64) hx hb dX0_raisePower_56 rfl ?_
      refine lv_lmul hx hb dX0_raisePower_57 ?_
      obtain ⟨y_6, hq, hf⟩ := obd hf
      have hy_6 : (x10 * ((-x3) * r_5).toInt64) = y_6 := Option.some.inj hq
      rw [hy_6]
      refine lv_lstore (lv' := [(10, .long y_6), (12, .long y_3), (0, .ref (qS 0)), (1, .ref (qE 0)), (3, .int x3), (9, .int x9), (14, .int x14)]) hx hb dX0_raisePower_58 hl (by decide) rfl (fun ls hl => ?_)
      refine lv_iload hx hb dX0_raisePower_60 (lv_at hl 5 rfl) ?_
      obtain ⟨r_7, hr_7, hf⟩ := obd hf
      refine cRiS (As := [.int x9]) (rest := []) ⟨hx, hb, hml, hown, hts⟩ (m_X0_turned l G cA x9 r_7 hr_7) (cw_X0_turned hts wi_604 ⟨Nat.le_of_ble_eq_true rfl, Nat.le_of_ble_eq_true rfl⟩) hK va_Pnil rfl hl.1 rfl (Nat.le_of_ble_eq_true rfl) dX0_raisePower_62 ⟨Nat.zero_le _, Nat.zero_le _⟩ ?_
      refine lv_istore (lv' := [(9, .int r_7), (10, .long y_6), (12, .long y_3), (0, .ref (qS 0)), (1, .ref (qE 0)), (3, .int x3), (14, .int x14)]) hx hb dX0_raisePower_65 hl (by decide) rfl (fun ls hl => ?_)
      refine lv_iinc (v := (x14 + 1)) (lv' := [(14, .int (x14 + 1)), (9, .int r_7), (10, .long y_6), (12, .long y_3), (0, .ref (qS 0)), (1, .ref (qE 0)), (3, .int x3)]) hx hb dX0_raisePower_67 hl (k := 6) rfl rfl (by decide) rfl (fun ls hl => ?_)
      refine lv_goto (tgt := 15) hx hb dX0_raisePower_70 (by decide) ?_
      exact ih r_4 zE x3 r_7 y_6 y_3 (x14 + 1) H locs ls hP hD hS (lv_sub hl [4, 5, 6, 1, 2, 3, 0] rfl) hf
def f_X0_raisePower (nS : Nat) (nE : Nat) (zS : SumS) (zE : SumS) (a2 : Int32) (a3 : Int32) (a4 : Int32) (a5 : Int64) (a7 : Int64) : Option (SumS × SumS) := f_X0_raisePower_15 nS nE fuel zS zE a3 a2 a5 a7 a4
set_option maxHeartbeats 4000000 in
set_option maxRecDepth 100000 in
theorem b_X0_raisePower_0 {p : Program} {l : Launch} {e : Env} {s : State} {m : MethodId} {args : Array Value} {below : List Frame} {meth : Method} {c : Code} {G : va_G} {cA : Nat → ClassId} {W9 : va_W} (qS : Nat → Nat) (nS : Nat) (qE : Nat → Nat) (nE : Nat) (C0 : Amb p s m args meth c cX0_raisePower RX0 15 none G cA (adr W9) []) {res : SumS × SumS} : ∀ (zS : SumS) (zE : SumS) (a2 : Int32) (a3 : Int32) (a4 : Int32) (a5 : Int64) (a7 : Int64) (H : Heap) (locs : List Loc) (ls : Array Slot), va_P G vwCl ((wSum cA qS nS zS) ++ (wSum cA qE nE zE)) H → va_D (adr W9) ((wSum cA qS nS zS) ++ (wSum cA qE nE zE)) → va_S (adr W9) s.heap H locs → lv_has ls 15 [(0, .ref (qS 0)), (1, .ref (qE 0)), (2, .int a2), (3, .int a3), (4, .int a4), (5, .long a5), (7, .long a7)] → f_X0_raisePower nS nE zS zE a2 a3 a4 a5 a7 = some res → W p l e rm_X0_raisePower s m args below meth c H locs 0 0 (MQ below (qWv G W9 ((wSum cA qS nS res.1) ++ (wSum cA qE nE res.2))) args s 0 0 (adr W9)) (F0 m 0 ls []) := by
  obtain ⟨hx, hb, hr, hml, hown, hts, hlocks, hK, hR, hRA⟩ := id C0
  intro zS zE a2 a3 a4 a5 a7 H locs ls hP hD hS hl hf
  unfold f_X0_raisePower at hf
  refine lv_iload_n hx hb dX0_raisePower_0 rfl (lv_at hl 2 rfl) ?_
  refine lv_istore (lv' := [(9, .int a2), (0, .ref (qS 0)), (1, .ref (qE 0)), (2, .int a2), (3, .int a3), (4, .int a4), (5, .long a5), (7, .long a7)]) hx hb dX0_raisePower_1 hl (by decide) rfl (fun ls hl => ?_)
  refine lv_lload hx hb dX0_raisePower_3 (lv_at hl 6 rfl) ?_
  refine lv_lstore (lv' := [(10, .long a5), (9, .int a2), (0, .ref (qS 0)), (1, .ref (qE 0)), (2, .int a2), (3, .int a3), (4, .int a4), (5, .long a5), (7, .long a7)]) hx hb dX0_raisePower_5 hl (by decide) rfl (fun ls hl => ?_)
  refine lv_lload hx hb dX0_raisePower_7 (lv_at hl 8 rfl) ?_
  refine lv_lstore (lv' := [(12, .long a7), (10, .long a5), (9, .int a2), (0, .ref (qS 0)), (1, .ref (qE 0)), (2, .int a2), (3, .int a3), (4, .int a4), (5, .long a5), (7, .long a7)]) hx hb dX0_raisePower_9 hl (by decide) rfl (fun ls hl => ?_)
  refine lv_iload hx hb dX0_raisePower_11 (lv_at hl 7 rfl) ?_
  refine lv_istore (lv' := [(14, .int a4), (12, .long a7), (10, .long a5), (9, .int a2), (0, .ref (qS 0)), (1, .ref (qE 0)), (2, .int a2), (3, .int a3), (4, .int a4), (5, .long a5), (7, .long a7)]) hx hb dX0_raisePower_13 hl (by decide) rfl (fun ls hl => ?_)
  exact b_X0_raisePower_15 qS nS qE nE   C0  fuel zS zE a3 a2 a5 a7 a4 H locs ls hP hD hS (lv_sub hl [4, 5, 7, 3, 2, 1, 0] rfl) hf

set_option maxRecDepth 100000 in
theorem m_X0_raisePower (l : Launch) (G : va_G) (cA : Nat → ClassId) (qS : Nat → Nat) (nS : Nat) (qE : Nat → Nat) (nE : Nat) (zS : SumS) (zE : SumS) (a2 : Int32) (a3 : Int32) (a4 : Int32) (a5 : Int64) (a7 : Int64) (res : SumS × SumS) (hf : f_X0_raisePower nS nE zS zE a2 a3 a4 a5 a7 = some res) : MWv l yX0_raisePower (.code yX0_raisePower cX0_raisePower 15 none :: wd) rm_X0_raisePower G cA [.ref (qS 0), .ref (qE 0), .int a2, .int a3, .int a4, .long a5, .long a7] ((wSum cA qS nS zS) ++ (wSum cA qE nE zE)) [] ((wSum cA qS nS res.1) ++ (wSum cA qE nE res.2)) := by
  refine Met.ofW (cc := cX0_raisePower) (maxL := 15) (ret := none) (by decide) rfl ?_
  intro p e s m args below meth c s₁ B hml hv
  obtain ⟨rfl, hK, hP, hD0, hR, hRA⟩ := hv
  have C0 : Amb p s m ([.ref (qS 0), .ref (qE 0), .int a2, .int a3, .int a4, .long a5, .long a7] : List Value).toArray meth c cX0_raisePower RX0 15 none G cA (adr ((wSum cA qS nS zS) ++ (wSum cA qE nE zE))) [] := ⟨B.exec, B.bytes, B.returns, hml, findClass_of_methodNamed B.named, fun w h => atoms_spec (ws := (.code yX0_raisePower cX0_raisePower 15 none :: wd)) B.pre w (List.mem_cons_of_mem _ h), B.notSynchronized, hK, hR, hRA⟩
  have hl := lv_entry ([.ref (qS 0), .ref (qE 0), .int a2, .int a3, .int a4, .long a5, .long a7]) (n := 15) (Nat.le_of_ble_eq_true rfl)
  rw [lg_entry_eq]
  generalize (lg_sl ([.ref (qS 0), .ref (qE 0), .int a2, .int a3, .int a4, .long a5, .long a7]) ++ List.replicate (15 - (lg_sl ([.ref (qS 0), .ref (qE 0), .int a2, .int a3, .int a4, .long a5, .long a7])).length) Slot.unset).toArray = ls at hl ⊢
  have hl : lv_has ls 15 [(0, .ref (qS 0)), (1, .ref (qE 0)), (2, .int a2), (3, .int a3), (4, .int a4), (5, .long a5), (7, .long a7)] := hl
  exact b_X0_raisePower_0 (W9 := ((wSum cA qS nS zS) ++ (wSum cA qE nE zE))) qS nS qE nE   C0 zS zE a2 a3 a4 a5 a7 s.heap [] ls hP (adr.self hD0) va_S.rf hl hf
theorem cw_X0_raisePower {R : Room} {s : State} {args : Array Value} {own : String} {index : Nat} (ht : ∀ w ∈ wd, w.before args s = true) (hlink : Cond.methodLink own index yX0_raisePower ∈ wd) (hR : rm_X0_raisePower.frames + 1 ≤ R.frames ∧ 8 + (15 + 11) + rm_X0_raisePower.locals ≤ R.locals) : CallB R s args own index yX0_raisePower cX0_raisePower 15 none (.code yX0_raisePower cX0_raisePower 15 none :: wd) rm_X0_raisePower 0 0 7 ∧ (Cond.static yX0_raisePower).before args s = true := cwS9 7 ht wi_632 wi_631 wi_68 hlink (by decide +kernel) rfl rfl hR
def rm_X0_putIntegral : Room := { frames := 5, cells := 0, slots := 0, locals := 152 }
def f_X0_putIntegral_108 (nS : Nat) (nE : Nat) (nA : Nat) (zA : SumS) (kb_2 : SumS → SumS → Int32 → Option (SumS × SumS)) (zS : SumS) (zE : SumS) (x3 : Int32) : Option (SumS × SumS) := kb_2 zS zE (x3 + 1)
set_option maxHeartbeats 4000000 in
set_option maxRecDepth 100000 in
theorem b_X0_putIntegral_108 {p : Program} {l : Launch} {e : Env} {s : State} {m : MethodId} {args : Array Value} {below : List Frame} {meth : Method} {c : Code} {G : va_G} {cA : Nat → ClassId} {W9 : va_W} (qS : Nat → Nat) (nS : Nat) (qE : Nat → Nat) (nE : Nat) (qA : Nat → Nat) (nA : Nat) (zA : SumS) (C0 : Amb p s m args meth c cX0_putIntegral RX0 11 none G cA (adr W9) ((wSum cA qA nA zA))) {res : SumS × SumS} (kb_2 : SumS → SumS → Int32 → Option (SumS × SumS)) (hkb_2 : ∀ (zS : SumS) (zE : SumS) (x3 : Int32) (H : Heap) (locs : List Loc) (ls : Array Slot), va_P G vwCl ((wSum cA qS nS zS) ++ (wSum cA qE nE zE)) H → va_D (adr W9) ((wSum cA qS nS zS) ++ (wSum cA qE nE zE)) → va_S (adr W9) s.heap H locs → lv_has ls 11 [(0, .ref (qS 0)), (1, .ref (qE 0)), (2, .ref (qA 0)), (3, .int x3)] → kb_2 zS zE x3 = some res → W p l e rm_X0_putIntegral s m args below meth c H locs 0 0 (MQ below (qWv G W9 ((wSum cA qS nS res.1) ++ (wSum cA qE nE res.2))) args s 0 0 (adr W9)) (F0 m 2 ls [])) : ∀ (zS : SumS) (zE : SumS) (x3 : Int32) (H : Heap) (locs : List Loc) (ls : Array Slot), va_P G vwCl ((wSum cA qS nS zS) ++ (wSum cA qE nE zE)) H → va_D (adr W9) ((wSum cA qS nS zS) ++ (wSum cA qE nE zE)) → va_S (adr W9) s.heap H locs → lv_has ls 11 [(0, .ref (qS 0)), (1, .ref (qE 0)), (2, .ref (qA 0)), (3, .int x3)] → f_X0_putIntegral_108 nS nE nA zA kb_2 zS zE x3 = some res → W p l e rm_X0_putIntegral s m args below meth c H locs 0 0 (MQ below (qWv G W9 ((wSum cA qS nS res.1) ++ (wSum cA qE nE res.2))) args s 0 0 (adr W9)) (F0 m 108 ls []) := by
  obtain ⟨hx, hb, hr, hml, hown, hts, hlocks, hK, hR, hRA⟩ := id C0
  intro zS zE x3 H locs ls hP hD hS hl hf
  unfold f_X0_putIntegral_108 at hf
  refine lv_iinc (v := (x3 + 1)) (lv' := [(3, .int (x3 + 1)), (0, .ref (qS 0)), (1, .ref (qE 0)), (2, .ref (qA 0))]) hx hb dX0_putIntegral_108 hl (k := 3) rfl rfl (by decide) rfl (fun ls hl => ?_)
  refine lv_goto (tgt := 2) hx hb dX0_putIntegral_111 (by decide) ?_
  exact hkb_2 zS zE (x3 + 1) H locs ls hP hD hS (lv_sub hl [1, 2, 3, 0] rfl) hf
def f_X0_putIntegral_56 (nS : Nat) (nE : Nat) (nA : Nat) (zA : SumS) (kb_2 : SumS → SumS → Int32 → Option (SumS × SumS)) (zS : SumS) (zE : SumS) (x3 : Int32) (x5 : Int32) (x6 : Int32) (x7 : Int64) (x9 : Int64) : Option (SumS × SumS) := (f_X0_integrateLog nS zS x5 x6 x7 x9).bind fun r_1 => f_X0_putIntegral_108 nS nE nA zA kb_2 r_1 zE x3
set_option maxHeartbeats 4000000 in
set_option maxRecDepth 100000 in
theorem b_X0_putIntegral_56 {p : Program} {l : Launch} {e : Env} {s : State} {m : MethodId} {args : Array Value} {below : List Frame} {meth : Method} {c : Code} {G : va_G} {cA : Nat → ClassId} {W9 : va_W} (qS : Nat → Nat) (nS : Nat) (qE : Nat → Nat) (nE : Nat) (qA : Nat → Nat) (nA : Nat) (zA : SumS) (C0 : Amb p s m args meth c cX0_putIntegral RX0 11 none G cA (adr W9) ((wSum cA qA nA zA))) {res : SumS × SumS} (kb_2 : SumS → SumS → Int32 → Option (SumS × SumS)) (hkb_2 : ∀ (zS : SumS) (zE : SumS) (x3 : Int32) (H : Heap) (locs : List Loc) (ls : Array Slot), va_P G vwCl ((wSum cA qS nS zS) ++ (wSum cA qE nE zE)) H → va_D (adr W9) ((wSum cA qS nS zS) ++ (wSum cA qE nE zE)) → va_S (adr W9) s.heap H locs → lv_has ls 11 [(0, .ref (qS 0)), (1, .ref (qE 0)), (2, .ref (qA 0)), (3, .int x3)] → kb_2 zS zE x3 = some res → W p l e rm_X0_putIntegral s m args below meth c H locs 0 0 (MQ below (qWv G W9 ((wSum cA qS nS res.1) ++ (wSum cA qE nE res.2))) args s 0 0 (adr W9)) (F0 m 2 ls [])) : ∀ (zS : SumS) (zE : SumS) (x3 : Int32) (x5 : Int32) (x6 : Int32) (x7 : Int64) (x9 : Int64) (H : Heap) (locs : List Loc) (ls : Array Slot), va_P G vwCl ((wSum cA qS nS zS) ++ (wSum cA qE nE zE)) H → va_D (adr W9) ((wSum cA qS nS zS) ++ (wSum cA qE nE zE)) → va_S (adr W9) s.heap H locs → lv_has ls 11 [(0, .ref (qS 0)), (1, .ref (qE 0)), (2, .ref (qA 0)), (3, .int x3), (5, .int x5), (6, .int x6), (7, .long x7), (9, .long x9)] → f_X0_putIntegral_56 nS nE nA zA kb_2 zS zE x3 x5 x6 x7 x9 = some res → W p l e rm_X0_putIntegral s m args below meth c H locs 0 0 (MQ below (qWv G W9 ((wSum cA qS nS res.1) ++ (wSum cA qE nE res.2))) args s 0 0 (adr W9)) (F0 m 56 ls []) := by
  obtain ⟨hx, hb, hr, hml, hown, hts, hlocks, hK, hR, hRA⟩ := id C0
  intro zS zE x3 x5 x6 x7 x9 H locs ls hP hD hS hl hf
  unfold f_X0_putIntegral_56 at hf
  refine lv_aload_n hx hb dX0_putIntegral_56 rfl (lv_at hl 0 rfl) ?_
  refine lv_iload hx hb dX0_putIntegral_57 (lv_at hl 4 rfl) ?_
  refine lv_iload hx hb dX0_putIntegral_59 (lv_at hl 5 rfl) ?_
  refine lv_lload hx hb dX0_putIntegral_61 (lv_at hl 6 rfl) ?_
  refine lv_lload hx hb dX0_putIntegral_63 (lv_at hl 7 rfl) ?_
  obtain ⟨r_1, hr_1, hf⟩ := obd hf
  refine cWvS (As := [.ref (qS 0), .int x5, .int x6, .long x7, .long x9]) (rest := []) (W1 := ((wSum cA qS nS r_1) ++ (wSum cA qE nE zE))) ⟨hx, hb, hml, hown, hts⟩ (m_X0_integrateLog l G cA qS nS zS x5 x6 x7 x9 r_1 hr_1) (cw_X0_integrateLog hts wi_621 ⟨Nat.le_of_ble_eq_true rfl, Nat.le_of_ble_eq_true rfl⟩) hK hP hD hS [0, 1, 2, 3] [8, 9, 10, 11, 4, 5, 6, 7] rfl rfl rfl (by decide) rfl va_Pnil dj_nil rfl hl.1 rfl (Nat.le_of_ble_eq_true rfl) dX0_putIntegral_65 ⟨Nat.zero_le _, Nat.zero_le _⟩ (fun H locs hP hD hS => ?_)
  refine lv_goto (tgt := 108) hx hb dX0_putIntegral_68 (by decide) ?_
  exact b_X0_putIntegral_108 qS nS qE nE qA nA  zA C0 kb_2 hkb_2 r_1 zE x3 H locs ls hP hD hS (lv_sub hl [0, 1, 2, 3] rfl) hf
def f_X0_putIntegral_2 (nS : Nat) (nE : Nat) (nA : Nat) (zA : SumS) : Nat → SumS → SumS → Int32 → Option (SumS × SumS)
  | 0, _, _, _ => none
  | fu + 1, zS, zE, x3 => (f_X4_size nA zA).bind fun r_1 => if r_1 ≤ x3 then some (zS, zE) else (f_X4_kindAt nA zA x3).bind fun r_3 => (f_X4_argumentAt nA zA x3).bind fun r_4 => (f_X4_powerAt nA zA x3).bind fun r_5 => (f_X4_topAt nA zA x3).bind fun r_6 => (f_X4_bottomAt nA zA x3).bind fun r_7 => if r_3 = 0 then f_X0_putIntegral_56 nS nE nA zA (fun zS_ zE_ x3_ => f_X0_putIntegral_2 nS nE nA zA fu zS_ zE_ x3_) zS zE x3 r_4 r_5 r_6 r_7 else if ¬ r_3 = (1 : Int32) then if r_5 < 0 then (f_X0_raisePower nS nE zS zE r_3 r_4 r_5 r_6 r_7).bind fun r_11 => f_X0_putIntegral_108 nS nE nA zA (fun zS_ zE_ x3_ => f_X0_putIntegral_2 nS nE nA zA fu zS_ zE_ x3_) r_11.1 r_11.2 x3 else (f_X0_lowerPower nS zS r_3 r_4 r_5 r_6 r_7).bind fun r_12 => f_X0_putIntegral_108 nS nE nA zA (fun zS_ zE_ x3_ => f_X0_putIntegral_2 nS nE nA zA fu zS_ zE_ x3_) r_12 zE x3 else f_X0_putIntegral_56 nS nE nA zA (fun zS_ zE_ x3_ => f_X0_putIntegral_2 nS nE nA zA fu zS_ zE_ x3_) zS zE x3 r_4 r_5 r_6 r_7
set_option maxHeartbeats 4000000 in
set_option maxRecDepth 100000 in
theorem b_X0_putIntegral_2 {p : Program} {l : Launch} {e : Env} {s : State} {m : MethodId} {args : Array Value} {below : List Frame} {meth : Method} {c : Code} {G : va_G} {cA : Nat → ClassId} {W9 : va_W} (qS : Nat → Nat) (nS : Nat) (qE : Nat → Nat) (nE : Nat) (qA : Nat → Nat) (nA : Nat) (zA : SumS) (C0 : Amb p s m args meth c cX0_putIntegral RX0 11 none G cA (adr W9) ((wSum cA qA nA zA))) {res : SumS × SumS} : ∀ (fu : Nat) (zS : SumS) (zE : SumS) (x3 : Int32) (H : Heap) (locs : List Loc) (ls : Array Slot), va_P G vwCl ((wSum cA qS nS zS) ++ (wSum cA qE nE zE)) H → va_D (adr W9) ((wSum cA qS nS zS) ++ (wSum cA qE nE zE)) → va_S (adr W9) s.heap H locs → lv_has ls 11 [(0, .ref (qS 0)), (1, .ref (qE 0)), (2, .ref (qA 0)), (3, .int x3)] → f_X0_putIntegral_2 nS nE nA zA fu zS zE x3 = some res → W p l e rm_X0_putIntegral s m args below meth c H locs 0 0 (MQ below (qWv G W9 ((wSum cA qS nS res.1) ++ (wSum cA qE nE res.2))) args s 0 0 (adr W9)) (F0 m 2 ls []) := by
  obtain ⟨hx, hb, hr, hml, hown, hts, hlocks, hK, hR, hRA⟩ := id C0
  intro fu
  induction fu with
  | zero =>
    intro zS zE x3 H locs ls hP hD hS hl hf
    rw [f_X0_putIntegral_2] at hf
    cases hf
  | succ fu ih =>
    intro zS zE x3 H locs ls hP hD hS hl hf
    rw [f_X0_putIntegral_2] at hf
    refine lv_iload_n hx hb dX0_putIntegral_2 rfl (lv_at hl 3 rfl) ?_
    refine lv_aload_n hx hb dX0_putIntegral_3 rfl (lv_at hl 2 rfl) ?_
    obtain ⟨r_1, hr_1, hf⟩ := obd hf
    refine cRiV (As := []) (rest := [.int x3]) ⟨hx, hb, hml, hown, hts⟩ (m_X4_size l G cA qA nA zA r_1 hr_1) (cw_X4_size hts wi_597 ⟨Nat.le_of_ble_eq_true rfl, Nat.le_of_ble_eq_true rfl⟩) hK (pk (roP hR hRA hS) [0, 1, 2, 3] rfl) (va_recv hK.1 (roP hR hRA hS) (ci := 2) (q0 := 0) rfl rfl) rfl hl.1 rfl (Nat.le_of_ble_eq_true rfl) dX0_putIntegral_4 ⟨Nat.zero_le _, Nat.zero_le _⟩ ?_
    refine lv_icmp_ge (tgt := 114) hx hb dX0_putIntegral_7 (by decide) (fun c_2 => ?_) (fun c_2 => ?_)
    · rw [if_pos (c_2)] at hf
      cases hf
      exact W.vret hx hb hr (fun t ht hW => ⟨⟨(), rfl, trivial, toT ht hP⟩, hS.F ht⟩) hS.2.2 dX0_putIntegral_114 hlocks
    · rw [if_neg (c_2)] at hf
      refine lv_aload_n hx hb dX0_putIntegral_10 rfl (lv_at hl 2 rfl) ?_
      refine lv_iload_n hx hb dX0_putIntegral_11 rfl (lv_at hl 3 rfl) ?_
      obtain ⟨r_3, hr_3, hf⟩ := obd hf
      refine cRiV (As := [.int x3]) (rest := []) ⟨hx, hb, hml, hown, hts⟩ (m_X4_kindAt l G cA qA nA zA x3 r_3 hr_3) (cw_X4_kindAt hts wi_598 ⟨Nat.le_of_ble_eq_true rfl, Nat.le_of_ble_eq_true rfl⟩) hK (pk (roP hR hRA hS) [0, 1, 2, 3] rfl) (va_recv hK.1 (roP hR hRA hS) (ci := 2) (q0 := 0) rfl rfl) rfl hl.1 rfl (Nat.le_of_ble_eq_true rfl) dX0_putIntegral_12 ⟨Nat.zero_le _, Nat.zero_le _⟩ ?_
      refine lv_istore (lv' := [(4, .int r_3), (0, .ref (qS 0)), (1, .ref (qE 0)), (2, .ref (qA 0)), (3, .int x3)]) hx hb dX0_putIntegral_15 hl (by decide) rfl (fun ls hl => ?_)
      refine lv_aload_n hx hb dX0_putIntegral_17 rfl (lv_at hl 3 rfl) ?_
      refine lv_iload_n hx hb dX0_putIntegral_18 rfl (lv_at hl 4 rfl) ?_
      obtain ⟨r_4, hr_4, hf⟩ := obd hf
      refine cRiV (As := [.int x3]) (rest := []) ⟨hx, hb, hml, hown, hts⟩ (m_X4_argumentAt l G cA qA nA zA x3 r_4 hr_4) (cw_X4_argumentAt hts wi_599 ⟨Nat.le_of_ble_eq_true rfl, Nat.le_of_ble_eq_true rfl⟩) hK (pk (roP hR hRA hS) [0, 1, 2, 3] rfl) (va_recv hK.1 (roP hR hRA hS) (ci := 2) (q0 := 0) rfl rfl) rfl hl.1 rfl (Nat.le_of_ble_eq_true rfl) dX0_putIntegral_19 ⟨Nat.zero_le _, Nat.zero_le _⟩ ?_
      refine lv_istore (lv' := [(5, .int r_4), (4, .int r_3), (0, .ref (qS 0)), (1, .ref (qE 0)), (2, .ref (qA 0)), (3, .int x3)]) hx hb dX0_putIntegral_22 hl (by decide) rfl (fun ls hl => ?_)
      refine lv_aload_n hx hb dX0_putIntegral_24 rfl (lv_at hl 4 rfl) ?_
      refine lv_iload_n hx hb dX0_putIntegral_25 rfl (lv_at hl 5 rfl) ?_
      obtain ⟨r_5, hr_5, hf⟩ := obd hf
      refine cRiV (As := [.int x3]) (rest := []) ⟨hx, hb, hml, hown, hts⟩ (m_X4_powerAt l G cA qA nA zA x3 r_5 hr_5) (cw_X4_powerAt hts wi_600 ⟨Nat.le_of_ble_eq_true rfl, Nat.le_of_ble_eq_true rfl⟩) hK (pk (roP hR hRA hS) [0, 1, 2, 3] rfl) (va_recv hK.1 (roP hR hRA hS) (ci := 2) (q0 := 0) rfl rfl) rfl hl.1 rfl (Nat.le_of_ble_eq_true rfl) dX0_putIntegral_26 ⟨Nat.zero_le _, Nat.zero_le _⟩ ?_
      refine lv_istore (lv' := [(6, .int r_5), (5, .int r_4), (4, .int r_3), (0, .ref (qS 0)), (1, .ref (qE 0)), (2, .ref (qA 0)), (3, .int x3)]) hx hb dX0_putIntegral_29 hl (by decide) rfl (fun ls hl => ?_)
      refine lv_aload_n hx hb dX0_putIntegral_31 rfl (lv_at hl 5 rfl) ?_
      refine lv_iload_n hx hb dX0_putIntegral_32 rfl (lv_at hl 6 rfl) ?_
      obtain ⟨r_6, hr_6, hf⟩ := obd hf
      refine cRlV (As := [.int x3]) (rest := []) ⟨hx, hb, hml, hown, hts⟩ (m_X4_topAt l G cA qA nA zA x3 r_6 hr_6) (cw_X4_topAt hts wi_601 ⟨Nat.le_of_ble_eq_true rfl, Nat.le_of_ble_eq_true rfl⟩) hK (pk (roP hR hRA hS) [0, 1, 2, 3] rfl) (va_recv hK.1 (roP hR hRA hS) (ci := 2) (q0 := 0) rfl rfl) rfl hl.1 rfl (Nat.le_of_ble_eq_true rfl) dX0_putIntegral_33 ⟨Nat.zero_le _, Nat.zero_le _⟩ ?_
      refine lv_lstore (lv' := [(7, .long r_6), (6, .int r_5), (5, .int r_4), (4, .int r_3), (0, .ref (qS 0)), (1, .ref (qE 0)), (2, .ref (qA 0)), (3, .int x3)]) hx hb dX0_putIntegral_36 hl (by decide) rfl (fun ls hl => ?_)
      refine lv_aload_n hx hb dX0_putIntegral_38 rfl (lv_at hl 6 rfl) ?_
      refine lv_iload_n hx hb dX0_putIntegral_39 rfl (lv_at hl 7 rfl) ?_
      obtain ⟨r_7, hr_7, hf⟩ := obd hf
      refine cRlV (As := [.int x3]) (rest := []) ⟨hx, hb, hml, hown, hts⟩ (m_X4_bottomAt l G cA qA nA zA x3 r_7 hr_7) (cw_X4_bottomAt hts wi_602 ⟨Nat.le_of_ble_eq_true rfl, Nat.le_of_ble_eq_true rfl⟩) hK (pk (roP hR hRA hS) [0, 1, 2, 3] rfl) (va_recv hK.1 (roP hR hRA hS) (ci := 2) (q0 := 0) rfl rfl) rfl hl.1 rfl (Nat.le_of_ble_eq_true rfl) dX0_putIntegral_40 ⟨Nat.zero_le _, Nat.zero_le _⟩ ?_
      refine lv_lstore (lv' := [(9, .long r_7), (7, .long r_6), (6, .int r_5), (5, .int r_4), (4, .int r_3), (0, .ref (qS 0)), (1, .ref (qE 0)), (2, .ref (qA 0)), (3, .int x3)]) hx hb dX0_putIntegral_43 hl (by decide) rfl (fun ls hl => ?_)
      refine lv_iload hx hb dX0_putIntegral_45 (lv_at hl 4 rfl) ?_
      refine lv_if_eq (tgt := 56) hx hb dX0_putIntegral_47 (by decide) (fun c_8 => ?_) (fun c_8 => ?_)
      · rw [if_pos (c_8)] at hf
        exact b_X0_putIntegral_56 qS nS qE nE qA nA  zA C0 (fun zS_ zE_ x3_ => f_X0_putIntegral_2 nS nE nA zA fu zS_ zE_ x3_) ih zS zE x3 r_4 r_5 r_6 r_7 H locs ls hP hD hS (lv_sub hl [5, 6, 7, 8, 3, 2, 1, 0] rfl) hf
      · rw [if_neg (c_8)] at hf
        refine lv_iload hx hb dX0_putIntegral_50 (lv_at hl 4 rfl) ?_
        refine lv_iconst (v := 1) hx hb dX0_putIntegral_52 (by decide) ?_
        refine lv_icmp_ne (tgt := 71) hx hb dX0_putIntegral_53 (by decide) (fun c_9 => ?_) (fun c_9 => ?_)
        · rw [if_pos (c_9)] at hf
          refine lv_iload hx hb dX0_putIntegral_71 (lv_at hl 2 rfl) ?_
          refine lv_if_lt (tgt := 93) hx hb dX0_putIntegral_73 (by decide) (fun c_10 => ?_) (fun c_10 => ?_)
          · rw [if_pos (c_10)] at hf
            refine lv_aload_n hx hb dX0_putIntegral_93 rfl (lv_at hl 5 rfl) ?_
            refine lv_aload_n hx hb dX0_putIntegral_94 rfl (lv_at hl 6 rfl) ?_
            refine lv_iload hx hb dX0_putIntegral_95 (lv_at hl 4 rfl) ?_
            refine lv_iload hx hb dX0_putIntegral_97 (lv_at hl 3 rfl) ?_
            refine lv_iload hx hb dX0_putIntegral_99 (lv_at hl 2 rfl) ?_
            refine lv_lload hx hb dX0_putIntegral_101 (lv_at hl 1 rfl) ?_
            refine lv_lload hx hb dX0_putIntegral_103 (lv_at hl 0 rfl) ?_
            obtain ⟨r_11, hr_11, hf⟩ := obd hf
            refine cWvS (As := [.ref (qS 0), .ref (qE 0), .int r_3, .int r_4, .int r_5, .long r_6, .long r_7]) (rest := []) (W1 := ((wSum cA qS nS r_11.1) ++ (wSum cA qE nE r_11.2))) ⟨hx, hb, hml, hown, hts⟩ (m_X0_raisePower l G cA qS nS qE nE zS zE r_3 r_4 r_5 r_6 r_7 r_11 hr_11) (cw_X0_raisePower hts wi_630 ⟨Nat.le_of_ble_eq_true rfl, Nat.le_of_ble_eq_true rfl⟩) hK hP hD hS [0, 1, 2, 3, 4, 5, 6, 7] [8, 9, 10, 11, 12, 13, 14, 15] rfl rfl rfl (by decide) rfl va_Pnil dj_nil rfl hl.1 rfl (Nat.le_of_ble_eq_true rfl) dX0_putIntegral_105 ⟨Nat.zero_le _, Nat.zero_le _⟩ (fun H locs hP hD hS => ?_)
            exact b_X0_putIntegral_108 qS nS qE nE qA nA  zA C0 (fun zS_ zE_ x3_ => f_X0_putIntegral_2 nS nE nA zA fu zS_ zE_ x3_) ih r_11.1 r_11.2 x3 H locs ls hP hD hS (lv_sub hl [5, 6, 7, 8] rfl) hf
          · rw [if_neg (c_10)] at hf
            refine lv_aload_n hx hb dX0_putIntegral_76 rfl (lv_at hl 5 rfl) ?_
            refine lv_iload hx hb dX0_putIntegral_77 (lv_at hl 4 rfl) ?_
            refine lv_iload hx hb dX0_putIntegral_79 (lv_at hl 3 rfl) ?_
            refine lv_iload hx hb dX0_putIntegral_81 (lv_at hl 2 rfl) ?_
            refine lv_lload hx hb dX0_putIntegral_83 (lv_at hl 1 rfl) ?_
            refine lv_lload hx hb dX0_putIntegral_85 (lv_at hl 0 rfl) ?_
            obtain ⟨r_12, hr_12, hf⟩ := obd hf
            refine cWvS (As := [.ref (qS 0), .int r_3, .int r_4, .int r_5, .long r_6, .long r_7]) (rest := []) (W1 := ((wSum cA qS nS r_12) ++ (wSum cA qE nE zE))) ⟨hx, hb, hml, hown, hts⟩ (m_X0_lowerPower l G cA qS nS zS r_3 r_4 r_5 r_6 r_7 r_12 hr_12) (cw_X0_lowerPower hts wi_624 ⟨Nat.le_of_ble_eq_true rfl, Nat.le_of_ble_eq_true rfl⟩) hK hP hD hS [0, 1, 2, 3] [8, 9, 10, 11, 4, 5, 6, 7] rfl rfl rfl (by decide) rfl va_Pnil dj_nil rfl hl.1 rfl (Nat.le_of_ble_eq_true rfl) dX0_putIntegral_87 ⟨Nat.zero_le _, Nat.zero_le _⟩ (fun H locs hP hD hS => ?_)
            refine lv_goto (tgt := 108) hx hb dX0_putIntegral_90 (by decide) ?_
            exact b_X0_putIntegral_108 qS nS qE nE qA nA  zA C0 (fun zS_ zE_ x3_ => f_X0_putIntegral_2 nS nE nA zA fu zS_ zE_ x3_) ih r_12 zE x3 H locs ls hP hD hS (lv_sub hl [5, 6, 7, 8] rfl) hf
        · rw [if_neg (not_not_intro c_9)] at hf
          exact b_X0_putIntegral_56 qS nS qE nE qA nA  zA C0 (fun zS_ zE_ x3_ => f_X0_putIntegral_2 nS nE nA zA fu zS_ zE_ x3_) ih zS zE x3 r_4 r_5 r_6 r_7 H locs ls hP hD hS (lv_sub hl [5, 6, 7, 8, 3, 2, 1, 0] rfl) hf
def f_X0_putIntegral (nS : Nat) (nE : Nat) (nA : Nat) (zA : SumS) (zS : SumS) (zE : SumS) : Option (SumS × SumS) := f_X0_putIntegral_2 nS nE nA zA fuel zS zE (0 : Int32)
set_option maxHeartbeats 4000000 in
set_option maxRecDepth 100000 in
theorem b_X0_putIntegral_0 {p : Program} {l : Launch} {e : Env} {s : State} {m : MethodId} {args : Array Value} {below : List Frame} {meth : Method} {c : Code} {G : va_G} {cA : Nat → ClassId} {W9 : va_W} (qS : Nat → Nat) (nS : Nat) (qE : Nat → Nat) (nE : Nat) (qA : Nat → Nat) (nA : Nat) (zA : SumS) (C0 : Amb p s m args meth c cX0_putIntegral RX0 11 none G cA (adr W9) ((wSum cA qA nA zA))) {res : SumS × SumS} : ∀ (zS : SumS) (zE : SumS) (H : Heap) (locs : List Loc) (ls : Array Slot), va_P G vwCl ((wSum cA qS nS zS) ++ (wSum cA qE nE zE)) H → va_D (adr W9) ((wSum cA qS nS zS) ++ (wSum cA qE nE zE)) → va_S (adr W9) s.heap H locs → lv_has ls 11 [(0, .ref (qS 0)), (1, .ref (qE 0)), (2, .ref (qA 0))] → f_X0_putIntegral nS nE nA zA zS zE = some res → W p l e rm_X0_putIntegral s m args below meth c H locs 0 0 (MQ below (qWv G W9 ((wSum cA qS nS res.1) ++ (wSum cA qE nE res.2))) args s 0 0 (adr W9)) (F0 m 0 ls []) := by
  obtain ⟨hx, hb, hr, hml, hown, hts, hlocks, hK, hR, hRA⟩ := id C0
  intro zS zE H locs ls hP hD hS hl hf
  unfold f_X0_putIntegral at hf
  refine lv_iconst (v := 0) hx hb dX0_putIntegral_0 (by decide) ?_
  refine lv_istore_n (lv' := [(3, .int (0 : Int32)), (0, .ref (qS 0)), (1, .ref (qE 0)), (2, .ref (qA 0))]) hx hb dX0_putIntegral_1 rfl hl (by decide) rfl (fun ls hl => ?_)
  exact b_X0_putIntegral_2 qS nS qE nE qA nA  zA C0  fuel zS zE (0 : Int32) H locs ls hP hD hS (lv_sub hl [1, 2, 3, 0] rfl) hf

set_option maxRecDepth 100000 in
theorem m_X0_putIntegral (l : Launch) (G : va_G) (cA : Nat → ClassId) (qS : Nat → Nat) (nS : Nat) (qE : Nat → Nat) (nE : Nat) (qA : Nat → Nat) (nA : Nat) (zA : SumS) (zS : SumS) (zE : SumS) (res : SumS × SumS) (hf : f_X0_putIntegral nS nE nA zA zS zE = some res) : MWv l yX0_putIntegral (.code yX0_putIntegral cX0_putIntegral 11 none :: wd) rm_X0_putIntegral G cA [.ref (qS 0), .ref (qE 0), .ref (qA 0)] ((wSum cA qS nS zS) ++ (wSum cA qE nE zE)) ((wSum cA qA nA zA)) ((wSum cA qS nS res.1) ++ (wSum cA qE nE res.2)) := by
  refine Met.ofW (cc := cX0_putIntegral) (maxL := 11) (ret := none) (by decide) rfl ?_
  intro p e s m args below meth c s₁ B hml hv
  obtain ⟨rfl, hK, hP, hD0, hR, hRA⟩ := hv
  have C0 : Amb p s m ([.ref (qS 0), .ref (qE 0), .ref (qA 0)] : List Value).toArray meth c cX0_putIntegral RX0 11 none G cA (adr ((wSum cA qS nS zS) ++ (wSum cA qE nE zE))) ((wSum cA qA nA zA)) := ⟨B.exec, B.bytes, B.returns, hml, findClass_of_methodNamed B.named, fun w h => atoms_spec (ws := (.code yX0_putIntegral cX0_putIntegral 11 none :: wd)) B.pre w (List.mem_cons_of_mem _ h), B.notSynchronized, hK, hR, hRA⟩
  have hl := lv_entry ([.ref (qS 0), .ref (qE 0), .ref (qA 0)]) (n := 11) (Nat.le_of_ble_eq_true rfl)
  rw [lg_entry_eq]
  generalize (lg_sl ([.ref (qS 0), .ref (qE 0), .ref (qA 0)]) ++ List.replicate (11 - (lg_sl ([.ref (qS 0), .ref (qE 0), .ref (qA 0)])).length) Slot.unset).toArray = ls at hl ⊢
  have hl : lv_has ls 11 [(0, .ref (qS 0)), (1, .ref (qE 0)), (2, .ref (qA 0))] := hl
  exact b_X0_putIntegral_0 (W9 := ((wSum cA qS nS zS) ++ (wSum cA qE nE zE))) qS nS qE nE qA nA  zA C0 zS zE s.heap [] ls hP (adr.self hD0) va_S.rf hl hf
theorem cw_X0_putIntegral {R : Room} {s : State} {args : Array Value} {own : String} {index : Nat} (ht : ∀ w ∈ wd, w.before args s = true) (hlink : Cond.methodLink own index yX0_putIntegral ∈ wd) (hR : rm_X0_putIntegral.frames + 1 ≤ R.frames ∧ 8 + (11 + 11) + rm_X0_putIntegral.locals ≤ R.locals) : CallB R s args own index yX0_putIntegral cX0_putIntegral 11 none (.code yX0_putIntegral cX0_putIntegral 11 none :: wd) rm_X0_putIntegral 0 0 3 ∧ (Cond.static yX0_putIntegral).before args s = true := cwS9 3 ht wi_620 wi_619 wi_68 hlink (by decide +kernel) rfl rfl hR
