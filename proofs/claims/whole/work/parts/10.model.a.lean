def rm_X7_isSlot : Room := { frames := 0, cells := 0, slots := 0, locals := 0 }
def f_X7_isSlot (a0 : Int32) : Option (Int32) := if a0 < 0 then some (0 : Int32) else if (8 : Int32) ≤ a0 then some (0 : Int32) else some (1 : Int32)
set_option maxHeartbeats 4000000 in
set_option maxRecDepth 100000 in
theorem b_X7_isSlot_0 {p : Program} {l : Launch} {e : Env} {s : State} {m : MethodId} {args : Array Value} {below : List Frame} {meth : Method} {c : Code} {G : va_G} {cA : Nat → ClassId} (C0 : Amb p s m args meth c cX7_isSlot RX7 1 (some .boolean) G cA (fun _ : Nat => False) []) {res : Int32} : ∀ (a0 : Int32) (ls : Array Slot), lv_has ls 1 [(0, .int a0)] → f_X7_isSlot a0 = some res → W p l e rm_X7_isSlot s m args below meth c s.heap [] 0 0 (MQ below (vp_Si (fun x => x = res)) args s 0 0 (fun _ : Nat => False)) (F0 m 0 ls []) := by
  obtain ⟨hx, hb, hr, hml, hown, hts, hlocks, hK, hR, hRA⟩ := id C0
  intro a0 ls hl hf
  unfold f_X7_isSlot at hf
  refine lv_iload_n hx hb dX7_isSlot_0 rfl (lv_at hl 0 rfl) ?_
  refine lv_if_lt (tgt := 14) hx hb dX7_isSlot_1 (by decide) (fun c_1 => ?_) (fun c_1 => ?_)
  · rw [if_pos (c_1)] at hf
    refine lv_iconst (v := 0) hx hb dX7_isSlot_14 (by decide) ?_
    cases hf
    exact W.zret hx hb hr (by decide) (fun t ht hW => ⟨_, rfl, rfl, ht⟩) (fun q hq => by cases hq) dX7_isSlot_15 hlocks
  · rw [if_neg (c_1)] at hf
    refine lv_iload_n hx hb dX7_isSlot_4 rfl (lv_at hl 0 rfl) ?_
    refine lv_bipush (v := (8 : Int32)) hx hb dX7_isSlot_5 (by decide) ?_
    refine lv_icmp_ge (tgt := 14) hx hb dX7_isSlot_7 (by decide) (fun c_2 => ?_) (fun c_2 => ?_)
    · rw [if_pos (c_2)] at hf
      refine lv_iconst (v := 0) hx hb dX7_isSlot_14 (by decide) ?_
      cases hf
      exact W.zret hx hb hr (by decide) (fun t ht hW => ⟨_, rfl, rfl, ht⟩) (fun q hq => by cases hq) dX7_isSlot_15 hlocks
    · rw [if_neg (c_2)] at hf
      refine lv_iconst (v := 1) hx hb dX7_isSlot_10 (by decide) ?_
      refine lv_goto (tgt := 15) hx hb dX7_isSlot_11 (by decide) ?_
      cases hf
      exact W.zret hx hb hr (by decide) (fun t ht hW => ⟨_, rfl, rfl, ht⟩) (fun q hq => by cases hq) dX7_isSlot_15 hlocks

set_option maxRecDepth 100000 in
theorem m_X7_isSlot (l : Launch) (G : va_G) (cA : Nat → ClassId) (a0 : Int32) (res : Int32) (hf : f_X7_isSlot a0 = some res) : MRi l yX7_isSlot (.code yX7_isSlot cX7_isSlot 1 (some .boolean) :: wd) rm_X7_isSlot G cA [.int a0] [] res := by
  refine Met.ofW (cc := cX7_isSlot) (maxL := 1) (ret := (some .boolean)) (by decide) rfl ?_
  intro p e s m args below meth c s₁ B hml hv
  obtain ⟨rfl, hK, hR⟩ := hv
  have C0 : Amb p s m ([.int a0] : List Value).toArray meth c cX7_isSlot RX7 1 (some .boolean) G cA (fun _ : Nat => False) [] := ⟨B.exec, B.bytes, B.returns, hml, findClass_of_methodNamed B.named, fun w h => atoms_spec (ws := (.code yX7_isSlot cX7_isSlot 1 (some .boolean) :: wd)) B.pre w (List.mem_cons_of_mem _ h), B.notSynchronized, hK, hR, fun _ _ _ h => h⟩
  have hl := lv_entry ([.int a0]) (n := 1) (Nat.le_of_ble_eq_true rfl)
  rw [lg_entry_eq]
  generalize (lg_sl ([.int a0]) ++ List.replicate (1 - (lg_sl ([.int a0])).length) Slot.unset).toArray = ls at hl ⊢
  have hl : lv_has ls 1 [(0, .int a0)] := hl
  exact b_X7_isSlot_0    C0 a0 ls hl hf
theorem cw_X7_isSlot {R : Room} {s : State} {args : Array Value} {own : String} {index : Nat} (ht : ∀ w ∈ wd, w.before args s = true) (hlink : Cond.methodLink own index yX7_isSlot ∈ wd) (hR : rm_X7_isSlot.frames + 1 ≤ R.frames ∧ 8 + (1 + 11) + rm_X7_isSlot.locals ≤ R.locals) : CallB R s args own index yX7_isSlot cX7_isSlot 1 (some .boolean) (.code yX7_isSlot cX7_isSlot 1 (some .boolean) :: wd) rm_X7_isSlot 0 0 1 ∧ (Cond.static yX7_isSlot).before args s = true := cwS9 1 ht wi_737 wi_736 wi_60 hlink (by decide +kernel) rfl rfl hR
def rm_X7_kindOf : Room := { frames := 0, cells := 0, slots := 0, locals := 0 }
def f_X7_kindOf (a0 : Int32) : Option (Int32) := if ¬ a0 = 0 then if (10 : Int32) ≤ a0 then if (28 : Int32) ≤ a0 then if (37 : Int32) ≤ a0 then some (4 : Int32) else some (3 : Int32) else some (2 : Int32) else some (1 : Int32) else some (0 : Int32)
set_option maxHeartbeats 4000000 in
set_option maxRecDepth 100000 in
theorem b_X7_kindOf_0 {p : Program} {l : Launch} {e : Env} {s : State} {m : MethodId} {args : Array Value} {below : List Frame} {meth : Method} {c : Code} {G : va_G} {cA : Nat → ClassId} (C0 : Amb p s m args meth c cX7_kindOf RX7 1 (some .int) G cA (fun _ : Nat => False) []) {res : Int32} : ∀ (a0 : Int32) (ls : Array Slot), lv_has ls 1 [(0, .int a0)] → f_X7_kindOf a0 = some res → W p l e rm_X7_kindOf s m args below meth c s.heap [] 0 0 (MQ below (vp_Si (fun x => x = res)) args s 0 0 (fun _ : Nat => False)) (F0 m 0 ls []) := by
  obtain ⟨hx, hb, hr, hml, hown, hts, hlocks, hK, hR, hRA⟩ := id C0
  intro a0 ls hl hf
  unfold f_X7_kindOf at hf
  refine lv_iload_n hx hb dX7_kindOf_0 rfl (lv_at hl 0 rfl) ?_
  refine lv_if_ne (tgt := 8) hx hb dX7_kindOf_1 (by decide) (fun c_1 => ?_) (fun c_1 => ?_)
  · rw [if_pos (c_1)] at hf
    refine lv_iload_n hx hb dX7_kindOf_8 rfl (lv_at hl 0 rfl) ?_
    refine lv_bipush (v := (10 : Int32)) hx hb dX7_kindOf_9 (by decide) ?_
    refine lv_icmp_ge (tgt := 18) hx hb dX7_kindOf_11 (by decide) (fun c_2 => ?_) (fun c_2 => ?_)
    · rw [if_pos (c_2)] at hf
      refine lv_iload_n hx hb dX7_kindOf_18 rfl (lv_at hl 0 rfl) ?_
      refine lv_bipush (v := (28 : Int32)) hx hb dX7_kindOf_19 (by decide) ?_
      refine lv_icmp_ge (tgt := 28) hx hb dX7_kindOf_21 (by decide) (fun c_3 => ?_) (fun c_3 => ?_)
      · rw [if_pos (c_3)] at hf
        refine lv_iload_n hx hb dX7_kindOf_28 rfl (lv_at hl 0 rfl) ?_
        refine lv_bipush (v := (37 : Int32)) hx hb dX7_kindOf_29 (by decide) ?_
        refine lv_icmp_ge (tgt := 38) hx hb dX7_kindOf_31 (by decide) (fun c_4 => ?_) (fun c_4 => ?_)
        · rw [if_pos (c_4)] at hf
          refine lv_iconst (v := 4) hx hb dX7_kindOf_38 (by decide) ?_
          cases hf
          exact W.iret hx hb hr (fun t ht hW => ⟨_, rfl, rfl, ht⟩) (fun q hq => by cases hq) dX7_kindOf_39 hlocks
        · rw [if_neg (c_4)] at hf
          refine lv_iconst (v := 3) hx hb dX7_kindOf_34 (by decide) ?_
          refine lv_goto (tgt := 39) hx hb dX7_kindOf_35 (by decide) ?_
          cases hf
          exact W.iret hx hb hr (fun t ht hW => ⟨_, rfl, rfl, ht⟩) (fun q hq => by cases hq) dX7_kindOf_39 hlocks
      · rw [if_neg (c_3)] at hf
        refine lv_iconst (v := 2) hx hb dX7_kindOf_24 (by decide) ?_
        refine lv_goto (tgt := 39) hx hb dX7_kindOf_25 (by decide) ?_
        cases hf
        exact W.iret hx hb hr (fun t ht hW => ⟨_, rfl, rfl, ht⟩) (fun q hq => by cases hq) dX7_kindOf_39 hlocks
    · rw [if_neg (c_2)] at hf
      refine lv_iconst (v := 1) hx hb dX7_kindOf_14 (by decide) ?_
      refine lv_goto (tgt := 39) hx hb dX7_kindOf_15 (by decide) ?_
      cases hf
      exact W.iret hx hb hr (fun t ht hW => ⟨_, rfl, rfl, ht⟩) (fun q hq => by cases hq) dX7_kindOf_39 hlocks
  · rw [if_neg (not_not_intro c_1)] at hf
    refine lv_iconst (v := 0) hx hb dX7_kindOf_4 (by decide) ?_
    refine lv_goto (tgt := 39) hx hb dX7_kindOf_5 (by decide) ?_
    cases hf
    exact W.iret hx hb hr (fun t ht hW => ⟨_, rfl, rfl, ht⟩) (fun q hq => by cases hq) dX7_kindOf_39 hlocks

set_option maxRecDepth 100000 in
theorem m_X7_kindOf (l : Launch) (G : va_G) (cA : Nat → ClassId) (a0 : Int32) (res : Int32) (hf : f_X7_kindOf a0 = some res) : MRi l yX7_kindOf (.code yX7_kindOf cX7_kindOf 1 (some .int) :: wd) rm_X7_kindOf G cA [.int a0] [] res := by
  refine Met.ofW (cc := cX7_kindOf) (maxL := 1) (ret := (some .int)) (by decide) rfl ?_
  intro p e s m args below meth c s₁ B hml hv
  obtain ⟨rfl, hK, hR⟩ := hv
  have C0 : Amb p s m ([.int a0] : List Value).toArray meth c cX7_kindOf RX7 1 (some .int) G cA (fun _ : Nat => False) [] := ⟨B.exec, B.bytes, B.returns, hml, findClass_of_methodNamed B.named, fun w h => atoms_spec (ws := (.code yX7_kindOf cX7_kindOf 1 (some .int) :: wd)) B.pre w (List.mem_cons_of_mem _ h), B.notSynchronized, hK, hR, fun _ _ _ h => h⟩
  have hl := lv_entry ([.int a0]) (n := 1) (Nat.le_of_ble_eq_true rfl)
  rw [lg_entry_eq]
  generalize (lg_sl ([.int a0]) ++ List.replicate (1 - (lg_sl ([.int a0])).length) Slot.unset).toArray = ls at hl ⊢
  have hl : lv_has ls 1 [(0, .int a0)] := hl
  exact b_X7_kindOf_0    C0 a0 ls hl hf
theorem cw_X7_kindOf {R : Room} {s : State} {args : Array Value} {own : String} {index : Nat} (ht : ∀ w ∈ wd, w.before args s = true) (hlink : Cond.methodLink own index yX7_kindOf ∈ wd) (hR : rm_X7_kindOf.frames + 1 ≤ R.frames ∧ 8 + (1 + 11) + rm_X7_kindOf.locals ≤ R.locals) : CallB R s args own index yX7_kindOf cX7_kindOf 1 (some .int) (.code yX7_kindOf cX7_kindOf 1 (some .int) :: wd) rm_X7_kindOf 0 0 1 ∧ (Cond.static yX7_kindOf).before args s = true := cwS9 1 ht wi_835 wi_834 wi_60 hlink (by decide +kernel) rfl rfl hR
def rm_X7_countOf : Room := { frames := 0, cells := 0, slots := 0, locals := 0 }
def f_X7_countOf (a0 : Int32) : Option (Int32) := if (10 : Int32) ≤ a0 then if (19 : Int32) ≤ a0 then if (28 : Int32) ≤ a0 then if (37 : Int32) ≤ a0 then some (a0 - (36 : Int32)) else some (a0 - (27 : Int32)) else some (a0 - (18 : Int32)) else some (a0 - (19 : Int32)) else some a0
set_option maxHeartbeats 4000000 in
set_option maxRecDepth 100000 in
theorem b_X7_countOf_0 {p : Program} {l : Launch} {e : Env} {s : State} {m : MethodId} {args : Array Value} {below : List Frame} {meth : Method} {c : Code} {G : va_G} {cA : Nat → ClassId} (C0 : Amb p s m args meth c cX7_countOf RX7 1 (some .int) G cA (fun _ : Nat => False) []) {res : Int32} : ∀ (a0 : Int32) (ls : Array Slot), lv_has ls 1 [(0, .int a0)] → f_X7_countOf a0 = some res → W p l e rm_X7_countOf s m args below meth c s.heap [] 0 0 (MQ below (vp_Si (fun x => x = res)) args s 0 0 (fun _ : Nat => False)) (F0 m 0 ls []) := by
  obtain ⟨hx, hb, hr, hml, hown, hts, hlocks, hK, hR, hRA⟩ := id C0
  intro a0 ls hl hf
  unfold f_X7_countOf at hf
  refine lv_iload_n hx hb dX7_countOf_0 rfl (lv_at hl 0 rfl) ?_
  refine lv_bipush (v := (10 : Int32)) hx hb dX7_countOf_1 (by decide) ?_
  refine lv_icmp_ge (tgt := 10) hx hb dX7_countOf_3 (by decide) (fun c_1 => ?_) (fun c_1 => ?_)
  · rw [if_pos (c_1)] at hf
    refine lv_iload_n hx hb dX7_countOf_10 rfl (lv_at hl 0 rfl) ?_
    refine lv_bipush (v := (19 : Int32)) hx hb dX7_countOf_11 (by decide) ?_
    refine lv_icmp_ge (tgt := 23) hx hb dX7_countOf_13 (by decide) (fun c_2 => ?_) (fun c_2 => ?_)
    · rw [if_pos (c_2)] at hf
      refine lv_iload_n hx hb dX7_countOf_23 rfl (lv_at hl 0 rfl) ?_
      refine lv_bipush (v := (28 : Int32)) hx hb dX7_countOf_24 (by decide) ?_
      refine lv_icmp_ge (tgt := 36) hx hb dX7_countOf_26 (by decide) (fun c_3 => ?_) (fun c_3 => ?_)
      · rw [if_pos (c_3)] at hf
        refine lv_iload_n hx hb dX7_countOf_36 rfl (lv_at hl 0 rfl) ?_
        refine lv_bipush (v := (37 : Int32)) hx hb dX7_countOf_37 (by decide) ?_
        refine lv_icmp_ge (tgt := 49) hx hb dX7_countOf_39 (by decide) (fun c_4 => ?_) (fun c_4 => ?_)
        · rw [if_pos (c_4)] at hf
          refine lv_iload_n hx hb dX7_countOf_49 rfl (lv_at hl 0 rfl) ?_
          refine lv_bipush (v := (36 : Int32)) hx hb dX7_countOf_50 (by decide) ?_
          refine lv_isub hx hb dX7_countOf_52 ?_
          cases hf
          exact W.iret hx hb hr (fun t ht hW => ⟨_, rfl, rfl, ht⟩) (fun q hq => by cases hq) dX7_countOf_53 hlocks
        · rw [if_neg (c_4)] at hf
          refine lv_iload_n hx hb dX7_countOf_42 rfl (lv_at hl 0 rfl) ?_
          refine lv_bipush (v := (27 : Int32)) hx hb dX7_countOf_43 (by decide) ?_
          refine lv_isub hx hb dX7_countOf_45 ?_
          refine lv_goto (tgt := 53) hx hb dX7_countOf_46 (by decide) ?_
          cases hf
          exact W.iret hx hb hr (fun t ht hW => ⟨_, rfl, rfl, ht⟩) (fun q hq => by cases hq) dX7_countOf_53 hlocks
      · rw [if_neg (c_3)] at hf
        refine lv_iload_n hx hb dX7_countOf_29 rfl (lv_at hl 0 rfl) ?_
        refine lv_bipush (v := (18 : Int32)) hx hb dX7_countOf_30 (by decide) ?_
        refine lv_isub hx hb dX7_countOf_32 ?_
        refine lv_goto (tgt := 53) hx hb dX7_countOf_33 (by decide) ?_
        cases hf
        exact W.iret hx hb hr (fun t ht hW => ⟨_, rfl, rfl, ht⟩) (fun q hq => by cases hq) dX7_countOf_53 hlocks
    · rw [if_neg (c_2)] at hf
      refine lv_iload_n hx hb dX7_countOf_16 rfl (lv_at hl 0 rfl) ?_
      refine lv_bipush (v := (19 : Int32)) hx hb dX7_countOf_17 (by decide) ?_
      refine lv_isub hx hb dX7_countOf_19 ?_
      refine lv_goto (tgt := 53) hx hb dX7_countOf_20 (by decide) ?_
      cases hf
      exact W.iret hx hb hr (fun t ht hW => ⟨_, rfl, rfl, ht⟩) (fun q hq => by cases hq) dX7_countOf_53 hlocks
  · rw [if_neg (c_1)] at hf
    refine lv_iload_n hx hb dX7_countOf_6 rfl (lv_at hl 0 rfl) ?_
    refine lv_goto (tgt := 53) hx hb dX7_countOf_7 (by decide) ?_
    cases hf
    exact W.iret hx hb hr (fun t ht hW => ⟨_, rfl, rfl, ht⟩) (fun q hq => by cases hq) dX7_countOf_53 hlocks

set_option maxRecDepth 100000 in
theorem m_X7_countOf (l : Launch) (G : va_G) (cA : Nat → ClassId) (a0 : Int32) (res : Int32) (hf : f_X7_countOf a0 = some res) : MRi l yX7_countOf (.code yX7_countOf cX7_countOf 1 (some .int) :: wd) rm_X7_countOf G cA [.int a0] [] res := by
  refine Met.ofW (cc := cX7_countOf) (maxL := 1) (ret := (some .int)) (by decide) rfl ?_
  intro p e s m args below meth c s₁ B hml hv
  obtain ⟨rfl, hK, hR⟩ := hv
  have C0 : Amb p s m ([.int a0] : List Value).toArray meth c cX7_countOf RX7 1 (some .int) G cA (fun _ : Nat => False) [] := ⟨B.exec, B.bytes, B.returns, hml, findClass_of_methodNamed B.named, fun w h => atoms_spec (ws := (.code yX7_countOf cX7_countOf 1 (some .int) :: wd)) B.pre w (List.mem_cons_of_mem _ h), B.notSynchronized, hK, hR, fun _ _ _ h => h⟩
  have hl := lv_entry ([.int a0]) (n := 1) (Nat.le_of_ble_eq_true rfl)
  rw [lg_entry_eq]
  generalize (lg_sl ([.int a0]) ++ List.replicate (1 - (lg_sl ([.int a0])).length) Slot.unset).toArray = ls at hl ⊢
  have hl : lv_has ls 1 [(0, .int a0)] := hl
  exact b_X7_countOf_0    C0 a0 ls hl hf
theorem cw_X7_countOf {R : Room} {s : State} {args : Array Value} {own : String} {index : Nat} (ht : ∀ w ∈ wd, w.before args s = true) (hlink : Cond.methodLink own index yX7_countOf ∈ wd) (hR : rm_X7_countOf.frames + 1 ≤ R.frames ∧ 8 + (1 + 11) + rm_X7_countOf.locals ≤ R.locals) : CallB R s args own index yX7_countOf cX7_countOf 1 (some .int) (.code yX7_countOf cX7_countOf 1 (some .int) :: wd) rm_X7_countOf 0 0 1 ∧ (Cond.static yX7_countOf).before args s = true := cwS9 1 ht wi_838 wi_837 wi_60 hlink (by decide +kernel) rfl rfl hR
def rm_X7_functionOf : Room := { frames := 0, cells := 0, slots := 0, locals := 0 }
def f_X7_functionOf (a0 : Int32) (a1 : Int32) : Option (Int32) := if ¬ a0 = 0 then if ¬ a0 = (1 : Int32) then if ¬ a0 = (2 : Int32) then if ¬ a0 = (3 : Int32) then some (a1 + (36 : Int32)) else some (a1 + (27 : Int32)) else if 0 ≤ a1 then some (a1 + (18 : Int32)) else some (a1 + (19 : Int32)) else some a1 else some (0 : Int32)
set_option maxHeartbeats 4000000 in
set_option maxRecDepth 100000 in
theorem b_X7_functionOf_0 {p : Program} {l : Launch} {e : Env} {s : State} {m : MethodId} {args : Array Value} {below : List Frame} {meth : Method} {c : Code} {G : va_G} {cA : Nat → ClassId} (C0 : Amb p s m args meth c cX7_functionOf RX7 2 (some .int) G cA (fun _ : Nat => False) []) {res : Int32} : ∀ (a0 : Int32) (a1 : Int32) (ls : Array Slot), lv_has ls 2 [(0, .int a0), (1, .int a1)] → f_X7_functionOf a0 a1 = some res → W p l e rm_X7_functionOf s m args below meth c s.heap [] 0 0 (MQ below (vp_Si (fun x => x = res)) args s 0 0 (fun _ : Nat => False)) (F0 m 0 ls []) := by
  obtain ⟨hx, hb, hr, hml, hown, hts, hlocks, hK, hR, hRA⟩ := id C0
  intro a0 a1 ls hl hf
  unfold f_X7_functionOf at hf
  refine lv_iload_n hx hb dX7_functionOf_0 rfl (lv_at hl 0 rfl) ?_
  refine lv_if_ne (tgt := 8) hx hb dX7_functionOf_1 (by decide) (fun c_1 => ?_) (fun c_1 => ?_)
  · rw [if_pos (c_1)] at hf
    refine lv_iload_n hx hb dX7_functionOf_8 rfl (lv_at hl 0 rfl) ?_
    refine lv_iconst (v := 1) hx hb dX7_functionOf_9 (by decide) ?_
    refine lv_icmp_ne (tgt := 17) hx hb dX7_functionOf_10 (by decide) (fun c_2 => ?_) (fun c_2 => ?_)
    · rw [if_pos (c_2)] at hf
      refine lv_iload_n hx hb dX7_functionOf_17 rfl (lv_at hl 0 rfl) ?_
      refine lv_iconst (v := 2) hx hb dX7_functionOf_18 (by decide) ?_
      refine lv_icmp_ne (tgt := 40) hx hb dX7_functionOf_19 (by decide) (fun c_3 => ?_) (fun c_3 => ?_)
      · rw [if_pos (c_3)] at hf
        refine lv_iload_n hx hb dX7_functionOf_40 rfl (lv_at hl 0 rfl) ?_
        refine lv_iconst (v := 3) hx hb dX7_functionOf_41 (by decide) ?_
        refine lv_icmp_ne (tgt := 52) hx hb dX7_functionOf_42 (by decide) (fun c_4 => ?_) (fun c_4 => ?_)
        · rw [if_pos (c_4)] at hf
          refine lv_iload_n hx hb dX7_functionOf_52 rfl (lv_at hl 1 rfl) ?_
          refine lv_bipush (v := (36 : Int32)) hx hb dX7_functionOf_53 (by decide) ?_
          refine lv_iadd hx hb dX7_functionOf_55 ?_
          cases hf
          exact W.iret hx hb hr (fun t ht hW => ⟨_, rfl, rfl, ht⟩) (fun q hq => by cases hq) dX7_functionOf_56 hlocks
        · rw [if_neg (not_not_intro c_4)] at hf
          refine lv_iload_n hx hb dX7_functionOf_45 rfl (lv_at hl 1 rfl) ?_
          refine lv_bipush (v := (27 : Int32)) hx hb dX7_functionOf_46 (by decide) ?_
          refine lv_iadd hx hb dX7_functionOf_48 ?_
          refine lv_goto (tgt := 56) hx hb dX7_functionOf_49 (by decide) ?_
          cases hf
          exact W.iret hx hb hr (fun t ht hW => ⟨_, rfl, rfl, ht⟩) (fun q hq => by cases hq) dX7_functionOf_56 hlocks
      · rw [if_neg (not_not_intro c_3)] at hf
        refine lv_iload_n hx hb dX7_functionOf_22 rfl (lv_at hl 1 rfl) ?_
        refine lv_if_ge (tgt := 33) hx hb dX7_functionOf_23 (by decide) (fun c_5 => ?_) (fun c_5 => ?_)
        · rw [if_pos (c_5)] at hf
          refine lv_iload_n hx hb dX7_functionOf_33 rfl (lv_at hl 1 rfl) ?_
          refine lv_bipush (v := (18 : Int32)) hx hb dX7_functionOf_34 (by decide) ?_
          refine lv_iadd hx hb dX7_functionOf_36 ?_
          refine lv_goto (tgt := 56) hx hb dX7_functionOf_37 (by decide) ?_
          cases hf
          exact W.iret hx hb hr (fun t ht hW => ⟨_, rfl, rfl, ht⟩) (fun q hq => by cases hq) dX7_functionOf_56 hlocks
        · rw [if_neg (c_5)] at hf
          refine lv_iload_n hx hb dX7_functionOf_26 rfl (lv_at hl 1 rfl) ?_
          refine lv_bipush (v := (19 : Int32)) hx hb dX7_functionOf_27 (by decide) ?_
          refine lv_iadd hx hb dX7_functionOf_29 ?_
          refine lv_goto (tgt := 56) hx hb dX7_functionOf_30 (by decide) ?_
          cases hf
          exact W.iret hx hb hr (fun t ht hW => ⟨_, rfl, rfl, ht⟩) (fun q hq => by cases hq) dX7_functionOf_56 hlocks
    · rw [if_neg (not_not_intro c_2)] at hf
      refine lv_iload_n hx hb dX7_functionOf_13 rfl (lv_at hl 1 rfl) ?_
      refine lv_goto (tgt := 56) hx hb dX7_functionOf_14 (by decide) ?_
      cases hf
      exact W.iret hx hb hr (fun t ht hW => ⟨_, rfl, rfl, ht⟩) (fun q hq => by cases hq) dX7_functionOf_56 hlocks
  · rw [if_neg (not_not_intro c_1)] at hf
    refine lv_iconst (v := 0) hx hb dX7_functionOf_4 (by decide) ?_
    refine lv_goto (tgt := 56) hx hb dX7_functionOf_5 (by decide) ?_
    cases hf
    exact W.iret hx hb hr (fun t ht hW => ⟨_, rfl, rfl, ht⟩) (fun q hq => by cases hq) dX7_functionOf_56 hlocks

set_option maxRecDepth 100000 in
theorem m_X7_functionOf (l : Launch) (G : va_G) (cA : Nat → ClassId) (a0 : Int32) (a1 : Int32) (res : Int32) (hf : f_X7_functionOf a0 a1 = some res) : MRi l yX7_functionOf (.code yX7_functionOf cX7_functionOf 2 (some .int) :: wd) rm_X7_functionOf G cA [.int a0, .int a1] [] res := by
  refine Met.ofW (cc := cX7_functionOf) (maxL := 2) (ret := (some .int)) (by decide) rfl ?_
  intro p e s m args below meth c s₁ B hml hv
  obtain ⟨rfl, hK, hR⟩ := hv
  have C0 : Amb p s m ([.int a0, .int a1] : List Value).toArray meth c cX7_functionOf RX7 2 (some .int) G cA (fun _ : Nat => False) [] := ⟨B.exec, B.bytes, B.returns, hml, findClass_of_methodNamed B.named, fun w h => atoms_spec (ws := (.code yX7_functionOf cX7_functionOf 2 (some .int) :: wd)) B.pre w (List.mem_cons_of_mem _ h), B.notSynchronized, hK, hR, fun _ _ _ h => h⟩
  have hl := lv_entry ([.int a0, .int a1]) (n := 2) (Nat.le_of_ble_eq_true rfl)
  rw [lg_entry_eq]
  generalize (lg_sl ([.int a0, .int a1]) ++ List.replicate (2 - (lg_sl ([.int a0, .int a1])).length) Slot.unset).toArray = ls at hl ⊢
  have hl : lv_has ls 2 [(0, .int a0), (1, .int a1)] := hl
  exact b_X7_functionOf_0    C0 a0 a1 ls hl hf
theorem cw_X7_functionOf {R : Room} {s : State} {args : Array Value} {own : String} {index : Nat} (ht : ∀ w ∈ wd, w.before args s = true) (hlink : Cond.methodLink own index yX7_functionOf ∈ wd) (hR : rm_X7_functionOf.frames + 1 ≤ R.frames ∧ 8 + (2 + 11) + rm_X7_functionOf.locals ≤ R.locals) : CallB R s args own index yX7_functionOf cX7_functionOf 2 (some .int) (.code yX7_functionOf cX7_functionOf 2 (some .int) :: wd) rm_X7_functionOf 0 0 2 ∧ (Cond.static yX7_functionOf).before args s = true := cwS9 2 ht wi_778 wi_777 wi_60 hlink (by decide +kernel) rfl rfl hR
def rm_X7_gcd : Room := { frames := 0, cells := 0, slots := 0, locals := 0 }
def f_X7_gcd_28  : Nat → Int64 → Int64 → Option (Int64)
  | 0, _, _ => none
  | fu + 1, x4, x6 => if x6 = (0 : Int64) then some x4 else if ¬ x6 = 0 then (some ((x4 - x4 / x6 * x6))).bind fun y_3 => f_X7_gcd_28  fu x6 y_3 else none
set_option maxHeartbeats 4000000 in
set_option maxRecDepth 100000 in
theorem b_X7_gcd_28 {p : Program} {l : Launch} {e : Env} {s : State} {m : MethodId} {args : Array Value} {below : List Frame} {meth : Method} {c : Code} {G : va_G} {cA : Nat → ClassId} (C0 : Amb p s m args meth c cX7_gcd RX7 10 (some .long) G cA (fun _ : Nat => False) []) {res : Int64} : ∀ (fu : Nat) (x4 : Int64) (x6 : Int64) (ls : Array Slot), lv_has ls 10 [(4, .long x4), (6, .long x6)] → f_X7_gcd_28 fu x4 x6 = some res → W p l e rm_X7_gcd s m args below meth c s.heap [] 0 0 (MQ below (vp_Sl (fun x => x = res)) args s 0 0 (fun _ : Nat => False)) (F0 m 28 ls []) := by
  obtain ⟨hx, hb, hr, hml, hown, hts, hlocks, hK, hR, hRA⟩ := id C0
  intro fu
  induction fu with
  | zero =>
    intro x4 x6 ls hl hf
    rw [f_X7_gcd_28] at hf
    cases hf
  | succ fu ih =>
    intro x4 x6 ls hl hf
    rw [f_X7_gcd_28] at hf
    refine lv_lload hx hb dX7_gcd_28 (lv_at hl 1 rfl) ?_
    refine lv_lconst (v := (0 : Int64)) hx hb dX7_gcd_30 (by decide) ?_
    refine W.lcmp hx hb dX7_gcd_31 ?_
    refine lv_if_eq (tgt := 53) hx hb dX7_gcd_32 (by decide) (fun c_1 => ?_) (fun c_1 => ?_)
    · rw [if_pos ((lg_cmp_eq _ _).mp c_1)] at hf
      refine lv_lload hx hb dX7_gcd_53 (lv_at hl 0 rfl) ?_
      cases hf
      exact W.lret hx hb hr (fun t ht hW => ⟨_, rfl, rfl, ht⟩) (fun q hq => by cases hq) dX7_gcd_55 hlocks
    · rw [if_neg (fun h => c_1 ((lg_cmp_eq _ _).mpr h))] at hf
      refine lv_lload hx hb dX7_gcd_35 (lv_at hl 0 rfl) ?_
      refine lv_lload hx hb dX7_gcd_37 (lv_at hl 1 rfl) ?_
      obtain ⟨hn_2, hf⟩ := oif hf
      refine lv_lrem hx hb dX7_gcd_39 hn_2 ?_
      obtain ⟨y_3, hq, hf⟩ := obd hf
      have hy_3 : (x4 - x4 / x6 * x6) = y_3 := Option.some.inj hq
      rw [hy_3]
      refine lv_lstore (lv' := [(8, .long y_3), (4, .long x4), (6, .long x6)]) hx hb dX7_gcd_40 hl (by decide) rfl (fun ls hl => ?_)
      refine lv_lload hx hb dX7_gcd_42 (lv_at hl 2 rfl) ?_
      refine lv_lstore (lv' := [(4, .long x6), (8, .long y_3), (6, .long x6)]) hx hb dX7_gcd_44 hl (by decide) rfl (fun ls hl => ?_)
      refine lv_lload hx hb dX7_gcd_46 (lv_at hl 1 rfl) ?_
      refine lv_lstore (lv' := [(6, .long y_3), (4, .long x6), (8, .long y_3)]) hx hb dX7_gcd_48 hl (by decide) rfl (fun ls hl => ?_)
      refine lv_goto (tgt := 28) hx hb dX7_gcd_50 (by decide) ?_
      exact ih x6 y_3 ls (lv_sub hl [1, 0] rfl) hf
def f_X7_gcd_26 (x4 : Int64) (v0 : Int64) : Option (Int64) := f_X7_gcd_28 fuel x4 v0
set_option maxHeartbeats 4000000 in
set_option maxRecDepth 100000 in
theorem b_X7_gcd_26 {p : Program} {l : Launch} {e : Env} {s : State} {m : MethodId} {args : Array Value} {below : List Frame} {meth : Method} {c : Code} {G : va_G} {cA : Nat → ClassId} (C0 : Amb p s m args meth c cX7_gcd RX7 10 (some .long) G cA (fun _ : Nat => False) []) {res : Int64} : ∀ (x4 : Int64) (v0 : Int64) (ls : Array Slot), lv_has ls 10 [(4, .long x4)] → f_X7_gcd_26 x4 v0 = some res → W p l e rm_X7_gcd s m args below meth c s.heap [] 0 0 (MQ below (vp_Sl (fun x => x = res)) args s 0 0 (fun _ : Nat => False)) (F0 m 26 ls [.long v0]) := by
  obtain ⟨hx, hb, hr, hml, hown, hts, hlocks, hK, hR, hRA⟩ := id C0
  intro x4 v0 ls hl hf
  unfold f_X7_gcd_26 at hf
  refine lv_lstore (lv' := [(6, .long v0), (4, .long x4)]) hx hb dX7_gcd_26 hl (by decide) rfl (fun ls hl => ?_)
  exact b_X7_gcd_28    C0  fuel x4 v0 ls (lv_sub hl [1, 0] rfl) hf
def f_X7_gcd_12 (x2 : Int64) (v0 : Int64) : Option (Int64) := if (0 : Int64) ≤ x2 then f_X7_gcd_26  v0 x2 else f_X7_gcd_26  v0 (-x2)
set_option maxHeartbeats 4000000 in
set_option maxRecDepth 100000 in
theorem b_X7_gcd_12 {p : Program} {l : Launch} {e : Env} {s : State} {m : MethodId} {args : Array Value} {below : List Frame} {meth : Method} {c : Code} {G : va_G} {cA : Nat → ClassId} (C0 : Amb p s m args meth c cX7_gcd RX7 10 (some .long) G cA (fun _ : Nat => False) []) {res : Int64} : ∀ (x2 : Int64) (v0 : Int64) (ls : Array Slot), lv_has ls 10 [(2, .long x2)] → f_X7_gcd_12 x2 v0 = some res → W p l e rm_X7_gcd s m args below meth c s.heap [] 0 0 (MQ below (vp_Sl (fun x => x = res)) args s 0 0 (fun _ : Nat => False)) (F0 m 12 ls [.long v0]) := by
  obtain ⟨hx, hb, hr, hml, hown, hts, hlocks, hK, hR, hRA⟩ := id C0
  intro x2 v0 ls hl hf
  unfold f_X7_gcd_12 at hf
  refine lv_lstore (lv' := [(4, .long v0), (2, .long x2)]) hx hb dX7_gcd_12 hl (by decide) rfl (fun ls hl => ?_)
  refine lv_lload_n hx hb dX7_gcd_14 rfl (lv_at hl 1 rfl) ?_
  refine lv_lconst (v := (0 : Int64)) hx hb dX7_gcd_15 (by decide) ?_
  refine W.lcmp hx hb dX7_gcd_16 ?_
  refine lv_if_ge (tgt := 25) hx hb dX7_gcd_17 (by decide) (fun c_1 => ?_) (fun c_1 => ?_)
  · rw [if_pos ((lg_cmp_ge _ _).mp c_1)] at hf
    refine lv_lload_n hx hb dX7_gcd_25 rfl (lv_at hl 1 rfl) ?_
    exact b_X7_gcd_26    C0  v0 x2 ls (lv_sub hl [0] rfl) hf
  · rw [if_neg (fun h => c_1 ((lg_cmp_ge _ _).mpr h))] at hf
    refine lv_lload_n hx hb dX7_gcd_20 rfl (lv_at hl 1 rfl) ?_
    refine lv_lneg hx hb dX7_gcd_21 ?_
    refine lv_goto (tgt := 26) hx hb dX7_gcd_22 (by decide) ?_
    exact b_X7_gcd_26    C0  v0 (-x2) ls (lv_sub hl [0] rfl) hf
def f_X7_gcd (a0 : Int64) (a2 : Int64) : Option (Int64) := if (0 : Int64) ≤ a0 then f_X7_gcd_12  a2 a0 else f_X7_gcd_12  a2 (-a0)
set_option maxHeartbeats 4000000 in
set_option maxRecDepth 100000 in
theorem b_X7_gcd_0 {p : Program} {l : Launch} {e : Env} {s : State} {m : MethodId} {args : Array Value} {below : List Frame} {meth : Method} {c : Code} {G : va_G} {cA : Nat → ClassId} (C0 : Amb p s m args meth c cX7_gcd RX7 10 (some .long) G cA (fun _ : Nat => False) []) {res : Int64} : ∀ (a0 : Int64) (a2 : Int64) (ls : Array Slot), lv_has ls 10 [(0, .long a0), (2, .long a2)] → f_X7_gcd a0 a2 = some res → W p l e rm_X7_gcd s m args below meth c s.heap [] 0 0 (MQ below (vp_Sl (fun x => x = res)) args s 0 0 (fun _ : Nat => False)) (F0 m 0 ls []) := by
  obtain ⟨hx, hb, hr, hml, hown, hts, hlocks, hK, hR, hRA⟩ := id C0
  intro a0 a2 ls hl hf
  unfold f_X7_gcd at hf
  refine lv_lload_n hx hb dX7_gcd_0 rfl (lv_at hl 0 rfl) ?_
  refine lv_lconst (v := (0 : Int64)) hx hb dX7_gcd_1 (by decide) ?_
  refine W.lcmp hx hb dX7_gcd_2 ?_
  refine lv_if_ge (tgt := 11) hx hb dX7_gcd_3 (by decide) (fun c_1 => ?_) (fun c_1 => ?_)
  · rw [if_pos ((lg_cmp_ge _ _).mp c_1)] at hf
    refine lv_lload_n hx hb dX7_gcd_11 rfl (lv_at hl 0 rfl) ?_
    exact b_X7_gcd_12    C0  a2 a0 ls (lv_sub hl [1] rfl) hf
  · rw [if_neg (fun h => c_1 ((lg_cmp_ge _ _).mpr h))] at hf
    refine lv_lload_n hx hb dX7_gcd_6 rfl (lv_at hl 0 rfl) ?_
    refine lv_lneg hx hb dX7_gcd_7 ?_
    refine lv_goto (tgt := 12) hx hb dX7_gcd_8 (by decide) ?_
    exact b_X7_gcd_12    C0  a2 (-a0) ls (lv_sub hl [1] rfl) hf

set_option maxRecDepth 100000 in
theorem m_X7_gcd (l : Launch) (G : va_G) (cA : Nat → ClassId) (a0 : Int64) (a2 : Int64) (res : Int64) (hf : f_X7_gcd a0 a2 = some res) : MRl l yX7_gcd (.code yX7_gcd cX7_gcd 10 (some .long) :: wd) rm_X7_gcd G cA [.long a0, .long a2] [] res := by
  refine Met.ofW (cc := cX7_gcd) (maxL := 10) (ret := (some .long)) (by decide) rfl ?_
  intro p e s m args below meth c s₁ B hml hv
  obtain ⟨rfl, hK, hR⟩ := hv
  have C0 : Amb p s m ([.long a0, .long a2] : List Value).toArray meth c cX7_gcd RX7 10 (some .long) G cA (fun _ : Nat => False) [] := ⟨B.exec, B.bytes, B.returns, hml, findClass_of_methodNamed B.named, fun w h => atoms_spec (ws := (.code yX7_gcd cX7_gcd 10 (some .long) :: wd)) B.pre w (List.mem_cons_of_mem _ h), B.notSynchronized, hK, hR, fun _ _ _ h => h⟩
  have hl := lv_entry ([.long a0, .long a2]) (n := 10) (Nat.le_of_ble_eq_true rfl)
  rw [lg_entry_eq]
  generalize (lg_sl ([.long a0, .long a2]) ++ List.replicate (10 - (lg_sl ([.long a0, .long a2])).length) Slot.unset).toArray = ls at hl ⊢
  have hl : lv_has ls 10 [(0, .long a0), (2, .long a2)] := hl
  exact b_X7_gcd_0    C0 a0 a2 ls hl hf
theorem cw_X7_gcd {R : Room} {s : State} {args : Array Value} {own : String} {index : Nat} (ht : ∀ w ∈ wd, w.before args s = true) (hlink : Cond.methodLink own index yX7_gcd ∈ wd) (hR : rm_X7_gcd.frames + 1 ≤ R.frames ∧ 8 + (10 + 11) + rm_X7_gcd.locals ≤ R.locals) : CallB R s args own index yX7_gcd cX7_gcd 10 (some .long) (.code yX7_gcd cX7_gcd 10 (some .long) :: wd) rm_X7_gcd 0 0 2 ∧ (Cond.static yX7_gcd).before args s = true := cwS9 2 ht wi_771 wi_770 wi_60 hlink (by decide +kernel) rfl rfl hR
def rm_X7_isDigit : Room := { frames := 0, cells := 0, slots := 0, locals := 0 }
def f_X7_isDigit (a0 : Int32) : Option (Int32) := if a0 < (48 : Int32) then some (0 : Int32) else if (57 : Int32) < a0 then some (0 : Int32) else some (1 : Int32)
set_option maxHeartbeats 4000000 in
set_option maxRecDepth 100000 in
theorem b_X7_isDigit_0 {p : Program} {l : Launch} {e : Env} {s : State} {m : MethodId} {args : Array Value} {below : List Frame} {meth : Method} {c : Code} {G : va_G} {cA : Nat → ClassId} (C0 : Amb p s m args meth c cX7_isDigit RX7 1 (some .boolean) G cA (fun _ : Nat => False) []) {res : Int32} : ∀ (a0 : Int32) (ls : Array Slot), lv_has ls 1 [(0, .int a0)] → f_X7_isDigit a0 = some res → W p l e rm_X7_isDigit s m args below meth c s.heap [] 0 0 (MQ below (vp_Si (fun x => x = res)) args s 0 0 (fun _ : Nat => False)) (F0 m 0 ls []) := by
  obtain ⟨hx, hb, hr, hml, hown, hts, hlocks, hK, hR, hRA⟩ := id C0
  intro a0 ls hl hf
  unfold f_X7_isDigit at hf
  refine lv_iload_n hx hb dX7_isDigit_0 rfl (lv_at hl 0 rfl) ?_
  refine lv_bipush (v := (48 : Int32)) hx hb dX7_isDigit_1 (by decide) ?_
  refine lv_icmp_lt (tgt := 16) hx hb dX7_isDigit_3 (by decide) (fun c_1 => ?_) (fun c_1 => ?_)
  · rw [if_pos (c_1)] at hf
    refine lv_iconst (v := 0) hx hb dX7_isDigit_16 (by decide) ?_
    cases hf
    exact W.zret hx hb hr (by decide) (fun t ht hW => ⟨_, rfl, rfl, ht⟩) (fun q hq => by cases hq) dX7_isDigit_17 hlocks
  · rw [if_neg (c_1)] at hf
    refine lv_iload_n hx hb dX7_isDigit_6 rfl (lv_at hl 0 rfl) ?_
    refine lv_bipush (v := (57 : Int32)) hx hb dX7_isDigit_7 (by decide) ?_
    refine lv_icmp_gt (tgt := 16) hx hb dX7_isDigit_9 (by decide) (fun c_2 => ?_) (fun c_2 => ?_)
    · rw [if_pos (c_2)] at hf
      refine lv_iconst (v := 0) hx hb dX7_isDigit_16 (by decide) ?_
      cases hf
      exact W.zret hx hb hr (by decide) (fun t ht hW => ⟨_, rfl, rfl, ht⟩) (fun q hq => by cases hq) dX7_isDigit_17 hlocks
    · rw [if_neg (c_2)] at hf
      refine lv_iconst (v := 1) hx hb dX7_isDigit_12 (by decide) ?_
      refine lv_goto (tgt := 17) hx hb dX7_isDigit_13 (by decide) ?_
      cases hf
      exact W.zret hx hb hr (by decide) (fun t ht hW => ⟨_, rfl, rfl, ht⟩) (fun q hq => by cases hq) dX7_isDigit_17 hlocks

set_option maxRecDepth 100000 in
theorem m_X7_isDigit (l : Launch) (G : va_G) (cA : Nat → ClassId) (a0 : Int32) (res : Int32) (hf : f_X7_isDigit a0 = some res) : MRi l yX7_isDigit (.code yX7_isDigit cX7_isDigit 1 (some .boolean) :: wd) rm_X7_isDigit G cA [.int a0] [] res := by
  refine Met.ofW (cc := cX7_isDigit) (maxL := 1) (ret := (some .boolean)) (by decide) rfl ?_
  intro p e s m args below meth c s₁ B hml hv
  obtain ⟨rfl, hK, hR⟩ := hv
  have C0 : Amb p s m ([.int a0] : List Value).toArray meth c cX7_isDigit RX7 1 (some .boolean) G cA (fun _ : Nat => False) [] := ⟨B.exec, B.bytes, B.returns, hml, findClass_of_methodNamed B.named, fun w h => atoms_spec (ws := (.code yX7_isDigit cX7_isDigit 1 (some .boolean) :: wd)) B.pre w (List.mem_cons_of_mem _ h), B.notSynchronized, hK, hR, fun _ _ _ h => h⟩
  have hl := lv_entry ([.int a0]) (n := 1) (Nat.le_of_ble_eq_true rfl)
  rw [lg_entry_eq]
  generalize (lg_sl ([.int a0]) ++ List.replicate (1 - (lg_sl ([.int a0])).length) Slot.unset).toArray = ls at hl ⊢
  have hl : lv_has ls 1 [(0, .int a0)] := hl
  exact b_X7_isDigit_0    C0 a0 ls hl hf
theorem cw_X7_isDigit {R : Room} {s : State} {args : Array Value} {own : String} {index : Nat} (ht : ∀ w ∈ wd, w.before args s = true) (hlink : Cond.methodLink own index yX7_isDigit ∈ wd) (hR : rm_X7_isDigit.frames + 1 ≤ R.frames ∧ 8 + (1 + 11) + rm_X7_isDigit.locals ≤ R.locals) : CallB R s args own index yX7_isDigit cX7_isDigit 1 (some .boolean) (.code yX7_isDigit cX7_isDigit 1 (some .boolean) :: wd) rm_X7_isDigit 0 0 1 ∧ (Cond.static yX7_isDigit).before args s = true := cwS9 1 ht wi_756 wi_755 wi_60 hlink (by decide +kernel) rfl rfl hR
def rm_X7_clash : Room := { frames := 0, cells := 0, slots := 0, locals := 0 }
def f_X7_clash_20  : Option (Int32) := some (1 : Int32)
set_option maxHeartbeats 4000000 in
set_option maxRecDepth 100000 in
theorem b_X7_clash_20 {p : Program} {l : Launch} {e : Env} {s : State} {m : MethodId} {args : Array Value} {below : List Frame} {meth : Method} {c : Code} {G : va_G} {cA : Nat → ClassId} (C0 : Amb p s m args meth c cX7_clash RX7 2 (some .boolean) G cA (fun _ : Nat => False) []) {res : Int32} : ∀ (ls : Array Slot), lv_has ls 2 [] → f_X7_clash_20  = some res → W p l e rm_X7_clash s m args below meth c s.heap [] 0 0 (MQ below (vp_Si (fun x => x = res)) args s 0 0 (fun _ : Nat => False)) (F0 m 20 ls []) := by
  obtain ⟨hx, hb, hr, hml, hown, hts, hlocks, hK, hR, hRA⟩ := id C0
  intro ls hl hf
  unfold f_X7_clash_20 at hf
  refine lv_iconst (v := 1) hx hb dX7_clash_20 (by decide) ?_
  refine lv_goto (tgt := 25) hx hb dX7_clash_21 (by decide) ?_
  cases hf
  exact W.zret hx hb hr (by decide) (fun t ht hW => ⟨_, rfl, rfl, ht⟩) (fun q hq => by cases hq) dX7_clash_25 hlocks
def f_X7_clash_10 (x0 : Int32) (x1 : Int32) : Option (Int32) := if ¬ x0 = (2 : Int32) then some (0 : Int32) else if x1 ≤ (2 : Int32) then some (0 : Int32) else f_X7_clash_20
set_option maxHeartbeats 4000000 in
set_option maxRecDepth 100000 in
theorem b_X7_clash_10 {p : Program} {l : Launch} {e : Env} {s : State} {m : MethodId} {args : Array Value} {below : List Frame} {meth : Method} {c : Code} {G : va_G} {cA : Nat → ClassId} (C0 : Amb p s m args meth c cX7_clash RX7 2 (some .boolean) G cA (fun _ : Nat => False) []) {res : Int32} : ∀ (x0 : Int32) (x1 : Int32) (ls : Array Slot), lv_has ls 2 [(0, .int x0), (1, .int x1)] → f_X7_clash_10 x0 x1 = some res → W p l e rm_X7_clash s m args below meth c s.heap [] 0 0 (MQ below (vp_Si (fun x => x = res)) args s 0 0 (fun _ : Nat => False)) (F0 m 10 ls []) := by
  obtain ⟨hx, hb, hr, hml, hown, hts, hlocks, hK, hR, hRA⟩ := id C0
  intro x0 x1 ls hl hf
  unfold f_X7_clash_10 at hf
  refine lv_iload_n hx hb dX7_clash_10 rfl (lv_at hl 0 rfl) ?_
  refine lv_iconst (v := 2) hx hb dX7_clash_11 (by decide) ?_
  refine lv_icmp_ne (tgt := 24) hx hb dX7_clash_12 (by decide) (fun c_1 => ?_) (fun c_1 => ?_)
  · rw [if_pos (c_1)] at hf
    refine lv_iconst (v := 0) hx hb dX7_clash_24 (by decide) ?_
    cases hf
    exact W.zret hx hb hr (by decide) (fun t ht hW => ⟨_, rfl, rfl, ht⟩) (fun q hq => by cases hq) dX7_clash_25 hlocks
  · rw [if_neg (not_not_intro c_1)] at hf
    refine lv_iload_n hx hb dX7_clash_15 rfl (lv_at hl 1 rfl) ?_
    refine lv_iconst (v := 2) hx hb dX7_clash_16 (by decide) ?_
    refine lv_icmp_le (tgt := 24) hx hb dX7_clash_17 (by decide) (fun c_2 => ?_) (fun c_2 => ?_)
    · rw [if_pos (c_2)] at hf
      refine lv_iconst (v := 0) hx hb dX7_clash_24 (by decide) ?_
      cases hf
      exact W.zret hx hb hr (by decide) (fun t ht hW => ⟨_, rfl, rfl, ht⟩) (fun q hq => by cases hq) dX7_clash_25 hlocks
    · rw [if_neg (c_2)] at hf
      exact b_X7_clash_20    C0   ls (lv_sub hl [] rfl) hf
def f_X7_clash (a0 : Int32) (a1 : Int32) : Option (Int32) := if ¬ a0 = (1 : Int32) then f_X7_clash_10  a0 a1 else if (1 : Int32) < a1 then f_X7_clash_20 else f_X7_clash_10  a0 a1
set_option maxHeartbeats 4000000 in
set_option maxRecDepth 100000 in
theorem b_X7_clash_0 {p : Program} {l : Launch} {e : Env} {s : State} {m : MethodId} {args : Array Value} {below : List Frame} {meth : Method} {c : Code} {G : va_G} {cA : Nat → ClassId} (C0 : Amb p s m args meth c cX7_clash RX7 2 (some .boolean) G cA (fun _ : Nat => False) []) {res : Int32} : ∀ (a0 : Int32) (a1 : Int32) (ls : Array Slot), lv_has ls 2 [(0, .int a0), (1, .int a1)] → f_X7_clash a0 a1 = some res → W p l e rm_X7_clash s m args below meth c s.heap [] 0 0 (MQ below (vp_Si (fun x => x = res)) args s 0 0 (fun _ : Nat => False)) (F0 m 0 ls []) := by
  obtain ⟨hx, hb, hr, hml, hown, hts, hlocks, hK, hR, hRA⟩ := id C0
  intro a0 a1 ls hl hf
  unfold f_X7_clash at hf
  refine lv_iload_n hx hb dX7_clash_0 rfl (lv_at hl 0 rfl) ?_
  refine lv_iconst (v := 1) hx hb dX7_clash_1 (by decide) ?_
  refine lv_icmp_ne (tgt := 10) hx hb dX7_clash_2 (by decide) (fun c_1 => ?_) (fun c_1 => ?_)
  · rw [if_pos (c_1)] at hf
    exact b_X7_clash_10    C0  a0 a1 ls (lv_sub hl [0, 1] rfl) hf
  · rw [if_neg (not_not_intro c_1)] at hf
    refine lv_iload_n hx hb dX7_clash_5 rfl (lv_at hl 1 rfl) ?_
    refine lv_iconst (v := 1) hx hb dX7_clash_6 (by decide) ?_
    refine lv_icmp_gt (tgt := 20) hx hb dX7_clash_7 (by decide) (fun c_2 => ?_) (fun c_2 => ?_)
    · rw [if_pos (c_2)] at hf
      exact b_X7_clash_20    C0   ls (lv_sub hl [] rfl) hf
    · rw [if_neg (c_2)] at hf
      exact b_X7_clash_10    C0  a0 a1 ls (lv_sub hl [0, 1] rfl) hf

set_option maxRecDepth 100000 in
theorem m_X7_clash (l : Launch) (G : va_G) (cA : Nat → ClassId) (a0 : Int32) (a1 : Int32) (res : Int32) (hf : f_X7_clash a0 a1 = some res) : MRi l yX7_clash (.code yX7_clash cX7_clash 2 (some .boolean) :: wd) rm_X7_clash G cA [.int a0, .int a1] [] res := by
  refine Met.ofW (cc := cX7_clash) (maxL := 2) (ret := (some .boolean)) (by decide) rfl ?_
  intro p e s m args below meth c s₁ B hml hv
  obtain ⟨rfl, hK, hR⟩ := hv
  have C0 : Amb p s m ([.int a0, .int a1] : List Value).toArray meth c cX7_clash RX7 2 (some .boolean) G cA (fun _ : Nat => False) [] := ⟨B.exec, B.bytes, B.returns, hml, findClass_of_methodNamed B.named, fun w h => atoms_spec (ws := (.code yX7_clash cX7_clash 2 (some .boolean) :: wd)) B.pre w (List.mem_cons_of_mem _ h), B.notSynchronized, hK, hR, fun _ _ _ h => h⟩
  have hl := lv_entry ([.int a0, .int a1]) (n := 2) (Nat.le_of_ble_eq_true rfl)
  rw [lg_entry_eq]
  generalize (lg_sl ([.int a0, .int a1]) ++ List.replicate (2 - (lg_sl ([.int a0, .int a1])).length) Slot.unset).toArray = ls at hl ⊢
  have hl : lv_has ls 2 [(0, .int a0), (1, .int a1)] := hl
  exact b_X7_clash_0    C0 a0 a1 ls hl hf
theorem cw_X7_clash {R : Room} {s : State} {args : Array Value} {own : String} {index : Nat} (ht : ∀ w ∈ wd, w.before args s = true) (hlink : Cond.methodLink own index yX7_clash ∈ wd) (hR : rm_X7_clash.frames + 1 ≤ R.frames ∧ 8 + (2 + 11) + rm_X7_clash.locals ≤ R.locals) : CallB R s args own index yX7_clash cX7_clash 2 (some .boolean) (.code yX7_clash cX7_clash 2 (some .boolean) :: wd) rm_X7_clash 0 0 2 ∧ (Cond.static yX7_clash).before args s = true := cwS9 2 ht wi_860 wi_859 wi_60 hlink (by decide +kernel) rfl rfl hR
def rm_X7_thrown : Room := { frames := 0, cells := 0, slots := 0, locals := 0 }
def f_X7_thrown (zM : MdS) : Option (Int32) := some (gM_refusal zM)
set_option maxHeartbeats 4000000 in
set_option maxRecDepth 100000 in
theorem b_X7_thrown_0 {p : Program} {l : Launch} {e : Env} {s : State} {m : MethodId} {args : Array Value} {below : List Frame} {meth : Method} {c : Code} {G : va_G} {cA : Nat → ClassId} (qM : Nat → Nat) (zM : MdS) (C0 : Amb p s m args meth c cX7_thrown RX7 1 (some .int) G cA (fun _ : Nat => False) ((wMd cA qM zM))) {res : Int32} : ∀ (ls : Array Slot), lv_has ls 1 [(0, .ref (qM 0))] → f_X7_thrown zM = some res → W p l e rm_X7_thrown s m args below meth c s.heap [] 0 0 (MQ below (vp_Si (fun x => x = res)) args s 0 0 (fun _ : Nat => False)) (F0 m 0 ls []) := by
  obtain ⟨hx, hb, hr, hml, hown, hts, hlocks, hK, hR, hRA⟩ := id C0
  intro ls hl hf
  unfold f_X7_thrown at hf
  refine lv_aload_n hx hb dX7_thrown_0 rfl (lv_at hl 0 rfl) ?_
  refine va_get (D := G) (ci := 5) (v := .int (gM_refusal zM)) (C := RX7) (T := TX7) (N := 13) hx hb hts fin_X7 hown hK.1 hR 0 rfl rfl 0 (by decide) (hts _ wi_671) (fun _ h9 => h9) rfl dX7_thrown_1 ?_
  cases hf
  exact W.iret hx hb hr (fun t ht hW => ⟨_, rfl, rfl, ht⟩) (fun q hq => by cases hq) dX7_thrown_4 hlocks

set_option maxRecDepth 100000 in
theorem m_X7_thrown (l : Launch) (G : va_G) (cA : Nat → ClassId) (qM : Nat → Nat) (zM : MdS)  (res : Int32) (hf : f_X7_thrown zM = some res) : MRi l yX7_thrown (.code yX7_thrown cX7_thrown 1 (some .int) :: wd) rm_X7_thrown G cA [.ref (qM 0)] ((wMd cA qM zM)) res := by
  refine Met.ofW (cc := cX7_thrown) (maxL := 1) (ret := (some .int)) (by decide) rfl ?_
  intro p e s m args below meth c s₁ B hml hv
  obtain ⟨rfl, hK, hR⟩ := hv
  have C0 : Amb p s m ([.ref (qM 0)] : List Value).toArray meth c cX7_thrown RX7 1 (some .int) G cA (fun _ : Nat => False) ((wMd cA qM zM)) := ⟨B.exec, B.bytes, B.returns, hml, findClass_of_methodNamed B.named, fun w h => atoms_spec (ws := (.code yX7_thrown cX7_thrown 1 (some .int) :: wd)) B.pre w (List.mem_cons_of_mem _ h), B.notSynchronized, hK, hR, fun _ _ _ h => h⟩
  have hl := lv_entry ([.ref (qM 0)]) (n := 1) (Nat.le_of_ble_eq_true rfl)
  rw [lg_entry_eq]
  generalize (lg_sl ([.ref (qM 0)]) ++ List.replicate (1 - (lg_sl ([.ref (qM 0)])).length) Slot.unset).toArray = ls at hl ⊢
  have hl : lv_has ls 1 [(0, .ref (qM 0))] := hl
  exact b_X7_thrown_0 qM  zM C0  ls hl hf
theorem cw_X7_thrown {R : Room} {s : State} {args : Array Value} {own : String} {index : Nat} (ht : ∀ w ∈ wd, w.before args s = true) (hlink : Cond.methodLink own index yX7_thrown ∈ wd) (hR : rm_X7_thrown.frames + 1 ≤ R.frames ∧ 8 + (1 + 11) + rm_X7_thrown.locals ≤ R.locals) : CallW R s args own RX7 index yX7_thrown cX7_thrown 1 (some .int) (.code yX7_thrown cX7_thrown 1 (some .int) :: wd) rm_X7_thrown 0 0 0 := cwV9 0 ht wi_714 wi_712 wi_713 wi_60 hlink (by decide +kernel) rfl rfl hR
def rm_X7_isOut : Room := { frames := 0, cells := 0, slots := 0, locals := 0 }
def f_X7_isOut_39 (zM : MdS) : Option (Int32) := some (1 : Int32)
set_option maxHeartbeats 4000000 in
set_option maxRecDepth 100000 in
theorem b_X7_isOut_39 {p : Program} {l : Launch} {e : Env} {s : State} {m : MethodId} {args : Array Value} {below : List Frame} {meth : Method} {c : Code} {G : va_G} {cA : Nat → ClassId} (qM : Nat → Nat) (zM : MdS) (C0 : Amb p s m args meth c cX7_isOut RX7 2 (some .boolean) G cA (fun _ : Nat => False) ((wMd cA qM zM))) {res : Int32} : ∀ (ls : Array Slot), lv_has ls 2 [] → f_X7_isOut_39 zM = some res → W p l e rm_X7_isOut s m args below meth c s.heap [] 0 0 (MQ below (vp_Si (fun x => x = res)) args s 0 0 (fun _ : Nat => False)) (F0 m 39 ls []) := by
  obtain ⟨hx, hb, hr, hml, hown, hts, hlocks, hK, hR, hRA⟩ := id C0
  intro ls hl hf
  unfold f_X7_isOut_39 at hf
  refine lv_iconst (v := 1) hx hb dX7_isOut_39 (by decide) ?_
  refine lv_goto (tgt := 44) hx hb dX7_isOut_40 (by decide) ?_
  cases hf
  exact W.zret hx hb hr (by decide) (fun t ht hW => ⟨_, rfl, rfl, ht⟩) (fun q hq => by cases hq) dX7_isOut_44 hlocks
def f_X7_isOut (zM : MdS) (a1 : Int32) : Option (Int32) := if inb a1 nUD = true then if (10000000000 : Int64) < (gM_up zM a1.toNatClampNeg) then f_X7_isOut_39 zM else if inb a1 nUD = true then if (gM_up zM a1.toNatClampNeg) < (-10000000000 : Int64) then f_X7_isOut_39 zM else if inb a1 nUD = true then if (gM_down zM a1.toNatClampNeg) ≤ (100000 : Int64) then some (0 : Int32) else f_X7_isOut_39 zM else none else none else none
set_option maxHeartbeats 4000000 in
set_option maxRecDepth 100000 in
theorem b_X7_isOut_0 {p : Program} {l : Launch} {e : Env} {s : State} {m : MethodId} {args : Array Value} {below : List Frame} {meth : Method} {c : Code} {G : va_G} {cA : Nat → ClassId} (qM : Nat → Nat) (zM : MdS) (C0 : Amb p s m args meth c cX7_isOut RX7 2 (some .boolean) G cA (fun _ : Nat => False) ((wMd cA qM zM))) {res : Int32} : ∀ (a1 : Int32) (ls : Array Slot), lv_has ls 2 [(0, .ref (qM 0)), (1, .int a1)] → f_X7_isOut zM a1 = some res → W p l e rm_X7_isOut s m args below meth c s.heap [] 0 0 (MQ below (vp_Si (fun x => x = res)) args s 0 0 (fun _ : Nat => False)) (F0 m 0 ls []) := by
  obtain ⟨hx, hb, hr, hml, hown, hts, hlocks, hK, hR, hRA⟩ := id C0
  intro a1 ls hl hf
  unfold f_X7_isOut at hf
  refine lv_aload_n hx hb dX7_isOut_0 rfl (lv_at hl 0 rfl) ?_
  refine va_get (D := G) (ci := 5) (v := .ref (qM 3)) (C := RX7) (T := TX7) (N := 13) hx hb hts fin_X7 hown hK.1 hR 0 rfl rfl 6 (by decide) (hts _ wi_677) (fun _ h9 => h9) rfl dX7_isOut_1 ?_
  refine lv_iload_n hx hb dX7_isOut_4 rfl (lv_at hl 1 rfl) ?_
  obtain ⟨hi_1, hf⟩ := oif hf
  refine va_lald hx hb hK.1 hR 3 1 rfl rfl (inb_in hi_1) dX7_isOut_5 ?_
  refine lv_ldc2 (v := (10000000000 : Int64)) hx hb hown (hts _ wi_787) dX7_isOut_6 ?_
  refine W.lcmp hx hb dX7_isOut_9 ?_
  refine lv_if_gt (tgt := 39) hx hb dX7_isOut_10 (by decide) (fun c_2 => ?_) (fun c_2 => ?_)
  · rw [if_pos ((lg_cmp_gt _ _).mp c_2)] at hf
    exact b_X7_isOut_39 qM  zM C0   ls (lv_sub hl [] rfl) hf
  · rw [if_neg (fun h => c_2 ((lg_cmp_gt _ _).mpr h))] at hf
    refine lv_aload_n hx hb dX7_isOut_13 rfl (lv_at hl 0 rfl) ?_
    refine va_get (D := G) (ci := 5) (v := .ref (qM 3)) (C := RX7) (T := TX7) (N := 13) hx hb hts fin_X7 hown hK.1 hR 0 rfl rfl 6 (by decide) (hts _ wi_677) (fun _ h9 => h9) rfl dX7_isOut_14 ?_
    refine lv_iload_n hx hb dX7_isOut_17 rfl (lv_at hl 1 rfl) ?_
    obtain ⟨hi_3, hf⟩ := oif hf
    refine va_lald hx hb hK.1 hR 3 1 rfl rfl (inb_in hi_3) dX7_isOut_18 ?_
    refine lv_ldc2 (v := (-10000000000 : Int64)) hx hb hown (hts _ wi_788) dX7_isOut_19 ?_
    refine W.lcmp hx hb dX7_isOut_22 ?_
    refine lv_if_lt (tgt := 39) hx hb dX7_isOut_23 (by decide) (fun c_4 => ?_) (fun c_4 => ?_)
    · rw [if_pos ((lg_cmp_lt _ _).mp c_4)] at hf
      exact b_X7_isOut_39 qM  zM C0   ls (lv_sub hl [] rfl) hf
    · rw [if_neg (fun h => c_4 ((lg_cmp_lt _ _).mpr h))] at hf
      refine lv_aload_n hx hb dX7_isOut_26 rfl (lv_at hl 0 rfl) ?_
      refine va_get (D := G) (ci := 5) (v := .ref (qM 4)) (C := RX7) (T := TX7) (N := 13) hx hb hts fin_X7 hown hK.1 hR 0 rfl rfl 7 (by decide) (hts _ wi_678) (fun _ h9 => h9) rfl dX7_isOut_27 ?_
      refine lv_iload_n hx hb dX7_isOut_30 rfl (lv_at hl 1 rfl) ?_
      obtain ⟨hi_5, hf⟩ := oif hf
      refine va_lald hx hb hK.1 hR 4 1 rfl rfl (inb_in hi_5) dX7_isOut_31 ?_
      refine lv_ldc2 (v := (100000 : Int64)) hx hb hown (hts _ wi_789) dX7_isOut_32 ?_
      refine W.lcmp hx hb dX7_isOut_35 ?_
      refine lv_if_le (tgt := 43) hx hb dX7_isOut_36 (by decide) (fun c_6 => ?_) (fun c_6 => ?_)
      · rw [if_pos ((lg_cmp_le _ _).mp c_6)] at hf
        refine lv_iconst (v := 0) hx hb dX7_isOut_43 (by decide) ?_
        cases hf
        exact W.zret hx hb hr (by decide) (fun t ht hW => ⟨_, rfl, rfl, ht⟩) (fun q hq => by cases hq) dX7_isOut_44 hlocks
      · rw [if_neg (fun h => c_6 ((lg_cmp_le _ _).mpr h))] at hf
        exact b_X7_isOut_39 qM  zM C0   ls (lv_sub hl [] rfl) hf

set_option maxRecDepth 100000 in
theorem m_X7_isOut (l : Launch) (G : va_G) (cA : Nat → ClassId) (qM : Nat → Nat) (zM : MdS) (a1 : Int32) (res : Int32) (hf : f_X7_isOut zM a1 = some res) : MRi l yX7_isOut (.code yX7_isOut cX7_isOut 2 (some .boolean) :: wd) rm_X7_isOut G cA [.ref (qM 0), .int a1] ((wMd cA qM zM)) res := by
  refine Met.ofW (cc := cX7_isOut) (maxL := 2) (ret := (some .boolean)) (by decide) rfl ?_
  intro p e s m args below meth c s₁ B hml hv
  obtain ⟨rfl, hK, hR⟩ := hv
  have C0 : Amb p s m ([.ref (qM 0), .int a1] : List Value).toArray meth c cX7_isOut RX7 2 (some .boolean) G cA (fun _ : Nat => False) ((wMd cA qM zM)) := ⟨B.exec, B.bytes, B.returns, hml, findClass_of_methodNamed B.named, fun w h => atoms_spec (ws := (.code yX7_isOut cX7_isOut 2 (some .boolean) :: wd)) B.pre w (List.mem_cons_of_mem _ h), B.notSynchronized, hK, hR, fun _ _ _ h => h⟩
  have hl := lv_entry ([.ref (qM 0), .int a1]) (n := 2) (Nat.le_of_ble_eq_true rfl)
  rw [lg_entry_eq]
  generalize (lg_sl ([.ref (qM 0), .int a1]) ++ List.replicate (2 - (lg_sl ([.ref (qM 0), .int a1])).length) Slot.unset).toArray = ls at hl ⊢
  have hl : lv_has ls 2 [(0, .ref (qM 0)), (1, .int a1)] := hl
  exact b_X7_isOut_0 qM  zM C0 a1 ls hl hf
theorem cw_X7_isOut {R : Room} {s : State} {args : Array Value} {own : String} {index : Nat} (ht : ∀ w ∈ wd, w.before args s = true) (hlink : Cond.methodLink own index yX7_isOut ∈ wd) (hR : rm_X7_isOut.frames + 1 ≤ R.frames ∧ 8 + (2 + 11) + rm_X7_isOut.locals ≤ R.locals) : CallW R s args own RX7 index yX7_isOut cX7_isOut 2 (some .boolean) (.code yX7_isOut cX7_isOut 2 (some .boolean) :: wd) rm_X7_isOut 0 0 1 := cwV9 1 ht wi_786 wi_785 wi_39 wi_60 hlink (by decide +kernel) rfl rfl hR
def rm_X7_termsOf : Room := { frames := 0, cells := 0, slots := 0, locals := 0 }
def f_X7_termsOf_39 (zM : MdS) (kb_8 : Int32 → Int32 → Int32 → Option (Int32)) (x1 : Int32) (x3 : Int32) (v0 : Int32) : Option (Int32) := kb_8 x1 v0 (x3 + 1)
set_option maxHeartbeats 4000000 in
set_option maxRecDepth 100000 in
theorem b_X7_termsOf_39 {p : Program} {l : Launch} {e : Env} {s : State} {m : MethodId} {args : Array Value} {below : List Frame} {meth : Method} {c : Code} {G : va_G} {cA : Nat → ClassId} (qM : Nat → Nat) (zM : MdS) (C0 : Amb p s m args meth c cX7_termsOf RX7 4 (some .int) G cA (fun _ : Nat => False) ((wMd cA qM zM))) {res : Int32} (kb_8 : Int32 → Int32 → Int32 → Option (Int32)) (hkb_8 : ∀ (x1 : Int32) (x2 : Int32) (x3 : Int32) (ls : Array Slot), lv_has ls 4 [(0, .ref (qM 0)), (1, .int x1), (2, .int x2), (3, .int x3)] → kb_8 x1 x2 x3 = some res → W p l e rm_X7_termsOf s m args below meth c s.heap [] 0 0 (MQ below (vp_Si (fun x => x = res)) args s 0 0 (fun _ : Nat => False)) (F0 m 8 ls [])) : ∀ (x1 : Int32) (x3 : Int32) (v0 : Int32) (ls : Array Slot), lv_has ls 4 [(0, .ref (qM 0)), (1, .int x1), (3, .int x3)] → f_X7_termsOf_39 zM kb_8 x1 x3 v0 = some res → W p l e rm_X7_termsOf s m args below meth c s.heap [] 0 0 (MQ below (vp_Si (fun x => x = res)) args s 0 0 (fun _ : Nat => False)) (F0 m 39 ls [.int v0]) := by
  obtain ⟨hx, hb, hr, hml, hown, hts, hlocks, hK, hR, hRA⟩ := id C0
  intro x1 x3 v0 ls hl hf
  unfold f_X7_termsOf_39 at hf
  refine lv_istore_n (lv' := [(2, .int v0), (0, .ref (qM 0)), (1, .int x1), (3, .int x3)]) hx hb dX7_termsOf_39 rfl hl (by decide) rfl (fun ls hl => ?_)
  refine lv_iinc (v := (x3 + 1)) (lv' := [(3, .int (x3 + 1)), (2, .int v0), (0, .ref (qM 0)), (1, .int x1)]) hx hb dX7_termsOf_40 hl (k := 3) rfl rfl (by decide) rfl (fun ls hl => ?_)
  refine lv_goto (tgt := 8) hx hb dX7_termsOf_43 (by decide) ?_
  exact hkb_8 x1 v0 (x3 + 1) ls (lv_sub hl [2, 3, 1, 0] rfl) hf
def f_X7_termsOf_8 (zM : MdS) : Nat → Int32 → Int32 → Int32 → Option (Int32)
  | 0, _, _, _ => none
  | fu + 1, x1, x2, x3 => if (((1150 : Int32) * x1) + (1150 : Int32)) ≤ x3 then some x2 else if inb x3 nUD = true then if (gM_up zM x3.toNatClampNeg) = (0 : Int64) then f_X7_termsOf_39 zM (fun x1_ x2_ x3_ => f_X7_termsOf_8 zM fu x1_ x2_ x3_) x1 x3 x2 else f_X7_termsOf_39 zM (fun x1_ x2_ x3_ => f_X7_termsOf_8 zM fu x1_ x2_ x3_) x1 x3 (x2 + (1 : Int32)) else none
set_option maxHeartbeats 4000000 in
set_option maxRecDepth 100000 in
theorem b_X7_termsOf_8 {p : Program} {l : Launch} {e : Env} {s : State} {m : MethodId} {args : Array Value} {below : List Frame} {meth : Method} {c : Code} {G : va_G} {cA : Nat → ClassId} (qM : Nat → Nat) (zM : MdS) (C0 : Amb p s m args meth c cX7_termsOf RX7 4 (some .int) G cA (fun _ : Nat => False) ((wMd cA qM zM))) {res : Int32} : ∀ (fu : Nat) (x1 : Int32) (x2 : Int32) (x3 : Int32) (ls : Array Slot), lv_has ls 4 [(0, .ref (qM 0)), (1, .int x1), (2, .int x2), (3, .int x3)] → f_X7_termsOf_8 zM fu x1 x2 x3 = some res → W p l e rm_X7_termsOf s m args below meth c s.heap [] 0 0 (MQ below (vp_Si (fun x => x = res)) args s 0 0 (fun _ : Nat => False)) (F0 m 8 ls []) := by
  obtain ⟨hx, hb, hr, hml, hown, hts, hlocks, hK, hR, hRA⟩ := id C0
  intro fu
  induction fu with
  | zero =>
    intro x1 x2 x3 ls hl hf
    rw [f_X7_termsOf_8] at hf
    cases hf
  | succ fu ih =>
    intro x1 x2 x3 ls hl hf
    rw [f_X7_termsOf_8] at hf
    refine lv_iload_n hx hb dX7_termsOf_8 rfl (lv_at hl 3 rfl) ?_
    refine lv_sipush (v := (1150 : Int32)) hx hb dX7_termsOf_9 (by decide) ?_
    refine lv_iload_n hx hb dX7_termsOf_12 rfl (lv_at hl 1 rfl) ?_
    refine lv_imul hx hb dX7_termsOf_13 ?_
    refine lv_sipush (v := (1150 : Int32)) hx hb dX7_termsOf_14 (by decide) ?_
    refine lv_iadd hx hb dX7_termsOf_17 ?_
    refine lv_icmp_ge (tgt := 46) hx hb dX7_termsOf_18 (by decide) (fun c_1 => ?_) (fun c_1 => ?_)
    · rw [if_pos (c_1)] at hf
      refine lv_iload_n hx hb dX7_termsOf_46 rfl (lv_at hl 2 rfl) ?_
      cases hf
      exact W.iret hx hb hr (fun t ht hW => ⟨_, rfl, rfl, ht⟩) (fun q hq => by cases hq) dX7_termsOf_47 hlocks
    · rw [if_neg (c_1)] at hf
      refine lv_aload_n hx hb dX7_termsOf_21 rfl (lv_at hl 0 rfl) ?_
      refine va_get (D := G) (ci := 5) (v := .ref (qM 3)) (C := RX7) (T := TX7) (N := 13) hx hb hts fin_X7 hown hK.1 hR 0 rfl rfl 6 (by decide) (hts _ wi_677) (fun _ h9 => h9) rfl dX7_termsOf_22 ?_
      refine lv_iload_n hx hb dX7_termsOf_25 rfl (lv_at hl 3 rfl) ?_
      obtain ⟨hi_2, hf⟩ := oif hf
      refine va_lald hx hb hK.1 hR 3 1 rfl rfl (inb_in hi_2) dX7_termsOf_26 ?_
      refine lv_lconst (v := (0 : Int64)) hx hb dX7_termsOf_27 (by decide) ?_
      refine W.lcmp hx hb dX7_termsOf_28 ?_
      refine lv_if_eq (tgt := 38) hx hb dX7_termsOf_29 (by decide) (fun c_3 => ?_) (fun c_3 => ?_)
      · rw [if_pos ((lg_cmp_eq _ _).mp c_3)] at hf
        refine lv_iload_n hx hb dX7_termsOf_38 rfl (lv_at hl 2 rfl) ?_
        exact b_X7_termsOf_39 qM  zM C0 (fun x1_ x2_ x3_ => f_X7_termsOf_8 zM fu x1_ x2_ x3_) ih x1 x3 x2 ls (lv_sub hl [0, 1, 3] rfl) hf
      · rw [if_neg (fun h => c_3 ((lg_cmp_eq _ _).mpr h))] at hf
        refine lv_iload_n hx hb dX7_termsOf_32 rfl (lv_at hl 2 rfl) ?_
        refine lv_iconst (v := 1) hx hb dX7_termsOf_33 (by decide) ?_
        refine lv_iadd hx hb dX7_termsOf_34 ?_
        refine lv_goto (tgt := 39) hx hb dX7_termsOf_35 (by decide) ?_
        exact b_X7_termsOf_39 qM  zM C0 (fun x1_ x2_ x3_ => f_X7_termsOf_8 zM fu x1_ x2_ x3_) ih x1 x3 (x2 + (1 : Int32)) ls (lv_sub hl [0, 1, 3] rfl) hf
def f_X7_termsOf (zM : MdS) (a1 : Int32) : Option (Int32) := (some (((1150 : Int32) * a1))).bind fun y_1 => f_X7_termsOf_8 zM fuel a1 (0 : Int32) y_1
set_option maxHeartbeats 4000000 in
set_option maxRecDepth 100000 in
theorem b_X7_termsOf_0 {p : Program} {l : Launch} {e : Env} {s : State} {m : MethodId} {args : Array Value} {below : List Frame} {meth : Method} {c : Code} {G : va_G} {cA : Nat → ClassId} (qM : Nat → Nat) (zM : MdS) (C0 : Amb p s m args meth c cX7_termsOf RX7 4 (some .int) G cA (fun _ : Nat => False) ((wMd cA qM zM))) {res : Int32} : ∀ (a1 : Int32) (ls : Array Slot), lv_has ls 4 [(0, .ref (qM 0)), (1, .int a1)] → f_X7_termsOf zM a1 = some res → W p l e rm_X7_termsOf s m args below meth c s.heap [] 0 0 (MQ below (vp_Si (fun x => x = res)) args s 0 0 (fun _ : Nat => False)) (F0 m 0 ls []) := by
  obtain ⟨hx, hb, hr, hml, hown, hts, hlocks, hK, hR, hRA⟩ := id C0
  intro a1 ls hl hf
  unfold f_X7_termsOf at hf
  refine lv_iconst (v := 0) hx hb dX7_termsOf_0 (by decide) ?_
  refine lv_istore_n (lv' := [(2, .int (0 : Int32)), (0, .ref (qM 0)), (1, .int a1)]) hx hb dX7_termsOf_1 rfl hl (by decide) rfl (fun ls hl => ?_)
  refine lv_sipush (v := (1150 : Int32)) hx hb dX7_termsOf_2 (by decide) ?_
  refine lv_iload_n hx hb dX7_termsOf_5 rfl (lv_at hl 2 rfl) ?_
  refine lv_imul hx hb dX7_termsOf_6 ?_
  obtain ⟨y_1, hq, hf⟩ := obd hf
  have hy_1 : ((1150 : Int32) * a1) = y_1 := Option.some.inj hq
  rw [hy_1]
  refine lv_istore_n (lv' := [(3, .int y_1), (2, .int (0 : Int32)), (0, .ref (qM 0)), (1, .int a1)]) hx hb dX7_termsOf_7 rfl hl (by decide) rfl (fun ls hl => ?_)
  exact b_X7_termsOf_8 qM  zM C0  fuel a1 (0 : Int32) y_1 ls (lv_sub hl [2, 3, 1, 0] rfl) hf

set_option maxRecDepth 100000 in
theorem m_X7_termsOf (l : Launch) (G : va_G) (cA : Nat → ClassId) (qM : Nat → Nat) (zM : MdS) (a1 : Int32) (res : Int32) (hf : f_X7_termsOf zM a1 = some res) : MRi l yX7_termsOf (.code yX7_termsOf cX7_termsOf 4 (some .int) :: wd) rm_X7_termsOf G cA [.ref (qM 0), .int a1] ((wMd cA qM zM)) res := by
  refine Met.ofW (cc := cX7_termsOf) (maxL := 4) (ret := (some .int)) (by decide) rfl ?_
  intro p e s m args below meth c s₁ B hml hv
  obtain ⟨rfl, hK, hR⟩ := hv
  have C0 : Amb p s m ([.ref (qM 0), .int a1] : List Value).toArray meth c cX7_termsOf RX7 4 (some .int) G cA (fun _ : Nat => False) ((wMd cA qM zM)) := ⟨B.exec, B.bytes, B.returns, hml, findClass_of_methodNamed B.named, fun w h => atoms_spec (ws := (.code yX7_termsOf cX7_termsOf 4 (some .int) :: wd)) B.pre w (List.mem_cons_of_mem _ h), B.notSynchronized, hK, hR, fun _ _ _ h => h⟩
  have hl := lv_entry ([.ref (qM 0), .int a1]) (n := 4) (Nat.le_of_ble_eq_true rfl)
  rw [lg_entry_eq]
  generalize (lg_sl ([.ref (qM 0), .int a1]) ++ List.replicate (4 - (lg_sl ([.ref (qM 0), .int a1])).length) Slot.unset).toArray = ls at hl ⊢
  have hl : lv_has ls 4 [(0, .ref (qM 0)), (1, .int a1)] := hl
  exact b_X7_termsOf_0 qM  zM C0 a1 ls hl hf
theorem cw_X7_termsOf {R : Room} {s : State} {args : Array Value} {own : String} {index : Nat} (ht : ∀ w ∈ wd, w.before args s = true) (hlink : Cond.methodLink own index yX7_termsOf ∈ wd) (hR : rm_X7_termsOf.frames + 1 ≤ R.frames ∧ 8 + (4 + 11) + rm_X7_termsOf.locals ≤ R.locals) : CallW R s args own RX7 index yX7_termsOf cX7_termsOf 4 (some .int) (.code yX7_termsOf cX7_termsOf 4 (some .int) :: wd) rm_X7_termsOf 0 0 1 := cwV9 1 ht wi_801 wi_800 wi_42 wi_60 hlink (by decide +kernel) rfl rfl hR
