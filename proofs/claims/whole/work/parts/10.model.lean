def rm_X7_isSlot : Room := { frames := 0, cells := 0, slots := 0, locals := 0 }
def f_X7_isSlot (a0 : Int32) : Option (Int32) := if a0 < 0 then some (0 : Int32) else if (8 : Int32) ≤ a0 then some (0 : Int32) else some (1 : Int32)
set_option maxHeartbeats 4000000 in
set_option maxRecDepth 100000 in
theorem b_X7_isSlot_0 {p : Program} {l : Launch} {e : Env} {s : State} {m : MethodId} {args : Array Value} {below : List Frame} {meth : Method} {c : Code} {G : va_G} {cA : Nat → ClassId} (C0 : Amb p s m args meth c cX7_isSlot RX7 1 (some .boolean) G cA (fun _ : Nat => False) []) {res : Int32} : ∀ (a0 : Int32) (ls : Array Slot), lv_has ls 1 [(0, .int a0)] → f_X7_isSlot a0 = some res → W p l e rm_X7_isSlot s m args below meth c s.heap [] 0 0 (MQ below (vp_Si (fun x => x = res)) args s 0 0 (fun _ : Nat => False)) (F0 m 0 ls []) := by
  obtain ⟨hx, hb, hr, hml, hown, hts, hlocks, hK, hR, hRA⟩ := id C0
  intro a0 ls hl hf
  unfold f_X7_isSlot at hf
  refine lv_iload_n hx hb dX7_isSlot_0 rfl (lv_at hl 0 rfl) ?_
  refine lv_if_lt (tgt := 14) hx hb dX7_isSlot_1 (by decide) (fun c_1 => ?_) (fun c_1 => ?_)
  · rw [if_pos (c_1)] at hf
    refine lv_iconst (v := 0) hx hb dX7_isSlot_14 (by decide) ?_
    cases hf
    exact W.zret hx hb hr (by decide) (fun t ht hW => ⟨_, rfl, rfl, ht⟩) (fun q hq => by cases hq) dX7_isSlot_15 hlocks
  · rw [if_neg (c_1)] at hf
    refine lv_iload_n hx hb dX7_isSlot_4 rfl (lv_at hl 0 rfl) ?_
    refine lv_bipush (v := (8 : Int32)) hx hb dX7_isSlot_5 (by decide) ?_
    refine lv_icmp_ge (tgt := 14) hx hb dX7_isSlot_7 (by decide) (fun c_2 => ?_) (fun c_2 => ?_)
    · rw [if_pos (c_2)] at hf
      refine lv_iconst (v := 0) hx hb dX7_isSlot_14 (by decide) ?_
      cases hf
      exact W.zret hx hb hr (by decide) (fun t ht hW => ⟨_, rfl, rfl, ht⟩) (fun q hq => by cases hq) dX7_isSlot_15 hlocks
    · rw [if_neg (c_2)] at hf
      refine lv_iconst (v := 1) hx hb dX7_isSlot_10 (by decide) ?_
      refine lv_goto (tgt := 15) hx hb dX7_isSlot_11 (by decide) ?_
      cases hf
      exact W.zret hx hb hr (by decide) (fun t ht hW => ⟨_, rfl, rfl, ht⟩) (fun q hq => by cases hq) dX7_isSlot_15 hlocks

set_option maxRecDepth 100000 in
theorem m_X7_isSlot (l : Launch) (G : va_G) (cA : Nat → ClassId) (a0 : Int32) (res : Int32) (hf : f_X7_isSlot a0 = some res) : MRi l yX7_isSlot (.code yX7_isSlot cX7_isSlot 1 (some .boolean) :: wd) rm_X7_isSlot G cA [.int a0] [] res := by
  refine Met.ofW (cc := cX7_isSlot) (maxL := 1) (ret := (some .boolean)) (by decide) rfl ?_
  intro p e s m args below meth c s₁ B hml hv
  obtain ⟨rfl, hK, hR⟩ := hv
  have C0 : Amb p s m ([.int a0] : List Value).toArray meth c cX7_isSlot RX7 1 (some .boolean) G cA (fun _ : Nat => False) [] := ⟨B.exec, B.bytes, B.returns, hml, findClass_of_methodNamed B.named, fun w h => atoms_spec (ws := (.code yX7_isSlot cX7_isSlot 1 (some .boolean) :: wd)) B.pre w (List.mem_cons_of_mem _ h), B.notSynchronized, hK, hR, fun _ _ _ h => h⟩
  have hl := lv_entry ([.int a0]) (n := 1) (Nat.le_of_ble_eq_true rfl)
  rw [lg_entry_eq]
  generalize (lg_sl ([.int a0]) ++ List.replicate (1 - (lg_sl ([.int a0])).length) Slot.unset).toArray = ls at hl ⊢
  have hl : lv_has ls 1 [(0, .int a0)] := hl
  exact b_X7_isSlot_0    C0 a0 ls hl hf
theorem cw_X7_isSlot {R : Room} {s : State} {args : Array Value} {own : String} {index : Nat} (ht : ∀ w ∈ wd, w.before args s = true) (hlink : Cond.methodLink own index yX7_isSlot ∈ wd) (hR : rm_X7_isSlot.frames + 1 ≤ R.frames ∧ 8 + (1 + 11) + rm_X7_isSlot.locals ≤ R.locals) : CallB R s args own index yX7_isSlot cX7_isSlot 1 (some .boolean) (.code yX7_isSlot cX7_isSlot 1 (some .boolean) :: wd) rm_X7_isSlot 0 0 1 ∧ (Cond.static yX7_isSlot).before args s = true := cwS9 1 ht wi_737 wi_736 wi_60 hlink (by decide +kernel) rfl rfl hR
def rm_X7_kindOf : Room := { frames := 0, cells := 0, slots := 0, locals := 0 }
def f_X7_kindOf (a0 : Int32) : Option (Int32) := if ¬ a0 = 0 then if (10 : Int32) ≤ a0 then if (28 : Int32) ≤ a0 then if (37 : Int32) ≤ a0 then some (4 : Int32) else some (3 : Int32) else some (2 : Int32) else some (1 : Int32) else some (0 : Int32)
set_option maxHeartbeats 4000000 in
set_option maxRecDepth 100000 in
theorem b_X7_kindOf_0 {p : Program} {l : Launch} {e : Env} {s : State} {m : MethodId} {args : Array Value} {below : List Frame} {meth : Method} {c : Code} {G : va_G} {cA : Nat → ClassId} (C0 : Amb p s m args meth c cX7_kindOf RX7 1 (some .int) G cA (fun _ : Nat => False) []) {res : Int32} : ∀ (a0 : Int32) (ls : Array Slot), lv_has ls 1 [(0, .int a0)] → f_X7_kindOf a0 = some res → W p l e rm_X7_kindOf s m args below meth c s.heap [] 0 0 (MQ below (vp_Si (fun x => x = res)) args s 0 0 (fun _ : Nat => False)) (F0 m 0 ls []) := by
  obtain ⟨hx, hb, hr, hml, hown, hts, hlocks, hK, hR, hRA⟩ := id C0
  intro a0 ls hl hf
  unfold f_X7_kindOf at hf
  refine lv_iload_n hx hb dX7_kindOf_0 rfl (lv_at hl 0 rfl) ?_
  refine lv_if_ne (tgt := 8) hx hb dX7_kindOf_1 (by decide) (fun c_1 => ?_) (fun c_1 => ?_)
  · rw [if_pos (c_1)] at hf
    refine lv_iload_n hx hb dX7_kindOf_8 rfl (lv_at hl 0 rfl) ?_
    refine lv_bipush (v := (10 : Int32)) hx hb dX7_kindOf_9 (by decide) ?_
    refine lv_icmp_ge (tgt := 18) hx hb dX7_kindOf_11 (by decide) (fun c_2 => ?_) (fun c_2 => ?_)
    · rw [if_pos (c_2)] at hf
      refine lv_iload_n hx hb dX7_kindOf_18 rfl (lv_at hl 0 rfl) ?_
      refine lv_bipush (v := (28 : Int32)) hx hb dX7_kindOf_19 (by decide) ?_
      refine lv_icmp_ge (tgt := 28) hx hb dX7_kindOf_21 (by decide) (fun c_3 => ?_) (fun c_3 => ?_)
      · rw [if_pos (c_3)] at hf
        refine lv_iload_n hx hb dX7_kindOf_28 rfl (lv_at hl 0 rfl) ?_
        refine lv_bipush (v := (37 : Int32)) hx hb dX7_kindOf_29 (by decide) ?_
        refine lv_icmp_ge (tgt := 38) hx hb dX7_kindOf_31 (by decide) (fun c_4 => ?_) (fun c_4 => ?_)
        · rw [if_pos (c_4)] at hf
          refine lv_iconst (v := 4) hx hb dX7_kindOf_38 (by decide) ?_
          cases hf
          exact W.iret hx hb hr (fun t ht hW => ⟨_, rfl, rfl, ht⟩) (fun q hq => by cases hq) dX7_kindOf_39 hlocks
        · rw [if_neg (c_4)] at hf
          refine lv_iconst (v := 3) hx hb dX7_kindOf_34 (by decide) ?_
          refine lv_goto (tgt := 39) hx hb dX7_kindOf_35 (by decide) ?_
          cases hf
          exact W.iret hx hb hr (fun t ht hW => ⟨_, rfl, rfl, ht⟩) (fun q hq => by cases hq) dX7_kindOf_39 hlocks
      · rw [if_neg (c_3)] at hf
        refine lv_iconst (v := 2) hx hb dX7_kindOf_24 (by decide) ?_
        refine lv_goto (tgt := 39) hx hb dX7_kindOf_25 (by decide) ?_
        cases hf
        exact W.iret hx hb hr (fun t ht hW => ⟨_, rfl, rfl, ht⟩) (fun q hq => by cases hq) dX7_kindOf_39 hlocks
    · rw [if_neg (c_2)] at hf
      refine lv_iconst (v := 1) hx hb dX7_kindOf_14 (by decide) ?_
      refine lv_goto (tgt := 39) hx hb dX7_kindOf_15 (by decide) ?_
      cases hf
      exact W.iret hx hb hr (fun t ht hW => ⟨_, rfl, rfl, ht⟩) (fun q hq => by cases hq) dX7_kindOf_39 hlocks
  · rw [if_neg (not_not_intro c_1)] at hf
    refine lv_iconst (v := 0) hx hb dX7_kindOf_4 (by decide) ?_
    refine lv_goto (tgt := 39) hx hb dX7_kindOf_5 (by decide) ?_
    cases hf
    exact W.iret hx hb hr (fun t ht hW => ⟨_, rfl, rfl, ht⟩) (fun q hq => by cases hq) dX7_kindOf_39 hlocks

set_option maxRecDepth 100000 in
theorem m_X7_kindOf (l : Launch) (G : va_G) (cA : Nat → ClassId) (a0 : Int32) (res : Int32) (hf : f_X7_kindOf a0 = some res) : MRi l yX7_kindOf (.code yX7_kindOf cX7_kindOf 1 (some .int) :: wd) rm_X7_kindOf G cA [.int a0] [] res := by
  refine Met.ofW (cc := cX7_kindOf) (maxL := 1) (ret := (some .int)) (by decide) rfl ?_
  intro p e s m args below meth c s₁ B hml hv
  obtain ⟨rfl, hK, hR⟩ := hv
  have C0 : Amb p s m ([.int a0] : List Value).toArray meth c cX7_kindOf RX7 1 (some .int) G cA (fun _ : Nat => False) [] := ⟨B.exec, B.bytes, B.returns, hml, findClass_of_methodNamed B.named, fun w h => atoms_spec (ws := (.code yX7_kindOf cX7_kindOf 1 (some .int) :: wd)) B.pre w (List.mem_cons_of_mem _ h), B.notSynchronized, hK, hR, fun _ _ _ h => h⟩
  have hl := lv_entry ([.int a0]) (n := 1) (Nat.le_of_ble_eq_true rfl)
  rw [lg_entry_eq]
  generalize (lg_sl ([.int a0]) ++ List.replicate (1 - (lg_sl ([.int a0])).length) Slot.unset).toArray = ls at hl ⊢
  have hl : lv_has ls 1 [(0, .int a0)] := hl
  exact b_X7_kindOf_0    C0 a0 ls hl hf
theorem cw_X7_kindOf {R : Room} {s : State} {args : Array Value} {own : String} {index : Nat} (ht : ∀ w ∈ wd, w.before args s = true) (hlink : Cond.methodLink own index yX7_kindOf ∈ wd) (hR : rm_X7_kindOf.frames + 1 ≤ R.frames ∧ 8 + (1 + 11) + rm_X7_kindOf.locals ≤ R.locals) : CallB R s args own index yX7_kindOf cX7_kindOf 1 (some .int) (.code yX7_kindOf cX7_kindOf 1 (some .int) :: wd) rm_X7_kindOf 0 0 1 ∧ (Cond.static yX7_kindOf).before args s = true := cwS9 1 ht wi_835 wi_834 wi_60 hlink (by decide +kernel) rfl rfl hR
def rm_X7_countOf : Room := { frames := 0, cells := 0, slots := 0, locals := 0 }
def f_X7_countOf (a0 : Int32) : Option (Int32) := if (10 : Int32) ≤ a0 then if (19 : Int32) ≤ a0 then if (28 : Int32) ≤ a0 then if (37 : Int32) ≤ a0 then some (a0 - (36 : Int32)) else some (a0 - (27 : Int32)) else some (a0 - (18 : Int32)) else some (a0 - (19 : Int32)) else some a0
set_option maxHeartbeats 4000000 in
set_option maxRecDepth 100000 in
theorem b_X7_countOf_0 {p : Program} {l : Launch} {e : Env} {s : State} {m : MethodId} {args : Array Value} {below : List Frame} {meth : Method} {c : Code} {G : va_G} {cA : Nat → ClassId} (C0 : Amb p s m args meth c cX7_countOf RX7 1 (some .int) G cA (fun _ : Nat => False) []) {res : Int32} : ∀ (a0 : Int32) (ls : Array Slot), lv_has ls 1 [(0, .int a0)] → f_X7_countOf a0 = some res → W p l e rm_X7_countOf s m args below meth c s.heap [] 0 0 (MQ below (vp_Si (fun x => x = res)) args s 0 0 (fun _ : Nat => False)) (F0 m 0 ls []) := by
  obtain ⟨hx, hb, hr, hml, hown, hts, hlocks, hK, hR, hRA⟩ := id C0
  intro a0 ls hl hf
  unfold f_X7_countOf at hf
  refine lv_iload_n hx hb dX7_countOf_0 rfl (lv_at hl 0 rfl) ?_
  refine lv_bipush (v := (10 : Int32)) hx hb dX7_countOf_1 (by decide) ?_
  refine lv_icmp_ge (tgt := 10) hx hb dX7_countOf_3 (by decide) (fun c_1 => ?_) (fun c_1 => ?_)
  · rw [if_pos (c_1)] at hf
    refine lv_iload_n hx hb dX7_countOf_10 rfl (lv_at hl 0 rfl) ?_
    refine lv_bipush (v := (19 : Int32)) hx hb dX7_countOf_11 (by decide) ?_
    refine lv_icmp_ge (tgt := 23) hx hb dX7_countOf_13 (by decide) (fun c_2 => ?_) (fun c_2 => ?_)
    · rw [if_pos (c_2)] at hf
      refine lv_iload_n hx hb dX7_countOf_23 rfl (lv_at hl 0 rfl) ?_
      refine lv_bipush (v := (28 : Int32)) hx hb dX7_countOf_24 (by decide) ?_
      refine lv_icmp_ge (tgt := 36) hx hb dX7_countOf_26 (by decide) (fun c_3 => ?_) (fun c_3 => ?_)
      · rw [if_pos (c_3)] at hf
        refine lv_iload_n hx hb dX7_countOf_36 rfl (lv_at hl 0 rfl) ?_
        refine lv_bipush (v := (37 : Int32)) hx hb dX7_countOf_37 (by decide) ?_
        refine lv_icmp_ge (tgt := 49) hx hb dX7_countOf_39 (by decide) (fun c_4 => ?_) (fun c_4 => ?_)
        · rw [if_pos (c_4)] at hf
          refine lv_iload_n hx hb dX7_countOf_49 rfl (lv_at hl 0 rfl) ?_
          refine lv_bipush (v := (36 : Int32)) hx hb dX7_countOf_50 (by decide) ?_
          refine lv_isub hx hb dX7_countOf_52 ?_
          cases hf
          exact W.iret hx hb hr (fun t ht hW => ⟨_, rfl, rfl, ht⟩) (fun q hq => by cases hq) dX7_countOf_53 hlocks
        · rw [if_neg (c_4)] at hf
          refine lv_iload_n hx hb dX7_countOf_42 rfl (lv_at hl 0 rfl) ?_
          refine lv_bipush (v := (27 : Int32)) hx hb dX7_countOf_43 (by decide) ?_
          refine lv_isub hx hb dX7_countOf_45 ?_
          refine lv_goto (tgt := 53) hx hb dX7_countOf_46 (by decide) ?_
          cases hf
          exact W.iret hx hb hr (fun t ht hW => ⟨_, rfl, rfl, ht⟩) (fun q hq => by cases hq) dX7_countOf_53 hlocks
      · rw [if_neg (c_3)] at hf
        refine lv_iload_n hx hb dX7_countOf_29 rfl (lv_at hl 0 rfl) ?_
        refine lv_bipush (v := (18 : Int32)) hx hb dX7_countOf_30 (by decide) ?_
        refine lv_isub hx hb dX7_countOf_32 ?_
        refine lv_goto (tgt := 53) hx hb dX7_countOf_33 (by decide) ?_
        cases hf
        exact W.iret hx hb hr (fun t ht hW => ⟨_, rfl, rfl, ht⟩) (fun q hq => by cases hq) dX7_countOf_53 hlocks
    · rw [if_neg (c_2)] at hf
      refine lv_iload_n hx hb dX7_countOf_16 rfl (lv_at hl 0 rfl) ?_
      refine lv_bipush (v := (19 : Int32)) hx hb dX7_countOf_17 (by decide) ?_
      refine lv_isub hx hb dX7_countOf_19 ?_
      refine lv_goto (tgt := 53) hx hb dX7_countOf_20 (by decide) ?_
      cases hf
      exact W.iret hx hb hr (fun t ht hW => ⟨_, rfl, rfl, ht⟩) (fun q hq => by cases hq) dX7_countOf_53 hlocks
  · rw [if_neg (c_1)] at hf
    refine lv_iload_n hx hb dX7_countOf_6 rfl (lv_at hl 0 rfl) ?_
    refine lv_goto (tgt := 53) hx hb dX7_countOf_7 (by decide) ?_
    cases hf
    exact W.iret hx hb hr (fun t ht hW => ⟨_, rfl, rfl, ht⟩) (fun q hq => by cases hq) dX7_countOf_53 hlocks

set_option maxRecDepth 100000 in
theorem m_X7_countOf (l : Launch) (G : va_G) (cA : Nat → ClassId) (a0 : Int32) (res : Int32) (hf : f_X7_countOf a0 = some res) : MRi l yX7_countOf (.code yX7_countOf cX7_countOf 1 (some .int) :: wd) rm_X7_countOf G cA [.int a0] [] res := by
  refine Met.ofW (cc := cX7_countOf) (maxL := 1) (ret := (some .int)) (by decide) rfl ?_
  intro p e s m args below meth c s₁ B hml hv
  obtain ⟨rfl, hK, hR⟩ := hv
  have C0 : Amb p s m ([.int a0] : List Value).toArray meth c cX7_countOf RX7 1 (some .int) G cA (fun _ : Nat => False) [] := ⟨B.exec, B.bytes, B.returns, hml, findClass_of_methodNamed B.named, fun w h => atoms_spec (ws := (.code yX7_countOf cX7_countOf 1 (some .int) :: wd)) B.pre w (List.mem_cons_of_mem _ h), B.notSynchronized, hK, hR, fun _ _ _ h => h⟩
  have hl := lv_entry ([.int a0]) (n := 1) (Nat.le_of_ble_eq_true rfl)
  rw [lg_entry_eq]
  generalize (lg_sl ([.int a0]) ++ List.replicate (1 - (lg_sl ([.int a0])).length) Slot.unset).toArray = ls at hl ⊢
  have hl : lv_has ls 1 [(0, .int a0)] := hl
  exact b_X7_countOf_0    C0 a0 ls hl hf
theorem cw_X7_countOf {R : Room} {s : State} {args : Array Value} {own : String} {index : Nat} (ht : ∀ w ∈ wd, w.before args s = true) (hlink : Cond.methodLink own index yX7_countOf ∈ wd) (hR : rm_X7_countOf.frames + 1 ≤ R.frames ∧ 8 + (1 + 11) + rm_X7_countOf.locals ≤ R.locals) : CallB R s args own index yX7_countOf cX7_countOf 1 (some .int) (.code yX7_countOf cX7_countOf 1 (some .int) :: wd) rm_X7_countOf 0 0 1 ∧ (Cond.static yX7_countOf).before args s = true := cwS9 1 ht wi_838 wi_837 wi_60 hlink (by decide +kernel) rfl rfl hR
def rm_X7_functionOf : Room := { frames := 0, cells := 0, slots := 0, locals := 0 }
def f_X7_functionOf (a0 : Int32) (a1 : Int32) : Option (Int32) := if ¬ a0 = 0 then if ¬ a0 = (1 : Int32) then if ¬ a0 = (2 : Int32) then if ¬ a0 = (3 : Int32) then some (a1 + (36 : Int32)) else some (a1 + (27 : Int32)) else if 0 ≤ a1 then some (a1 + (18 : Int32)) else some (a1 + (19 : Int32)) else some a1 else some (0 : Int32)
set_option maxHeartbeats 4000000 in
set_option maxRecDepth 100000 in
theorem b_X7_functionOf_0 {p : Program} {l : Launch} {e : Env} {s : State} {m : MethodId} {args : Array Value} {below : List Frame} {meth : Method} {c : Code} {G : va_G} {cA : Nat → ClassId} (C0 : Amb p s m args meth c cX7_functionOf RX7 2 (some .int) G cA (fun _ : Nat => False) []) {res : Int32} : ∀ (a0 : Int32) (a1 : Int32) (ls : Array Slot), lv_has ls 2 [(0, .int a0), (1, .int a1)] → f_X7_functionOf a0 a1 = some res → W p l e rm_X7_functionOf s m args below meth c s.heap [] 0 0 (MQ below (vp_Si (fun x => x = res)) args s 0 0 (fun _ : Nat => False)) (F0 m 0 ls []) := by
  obtain ⟨hx, hb, hr, hml, hown, hts, hlocks, hK, hR, hRA⟩ := id C0
  intro a0 a1 ls hl hf
  unfold f_X7_functionOf at hf
  refine lv_iload_n hx hb dX7_functionOf_0 rfl (lv_at hl 0 rfl) ?_
  refine lv_if_ne (tgt := 8) hx hb dX7_functionOf_1 (by decide) (fun c_1 => ?_) (fun c_1 => ?_)
  · rw [if_pos (c_1)] at hf
    refine lv_iload_n hx hb dX7_functionOf_8 rfl (lv_at hl 0 rfl) ?_
    refine lv_iconst (v := 1) hx hb dX7_functionOf_9 (by decide) ?_
    refine lv_icmp_ne (tgt := 17) hx hb dX7_functionOf_10 (by decide) (fun c_2 => ?_) (fun c_2 => ?_)
    · rw [if_pos (c_2)] at hf
      refine lv_iload_n hx hb dX7_functionOf_17 rfl (lv_at hl 0 rfl) ?_
      refine lv_iconst (v := 2) hx hb dX7_functionOf_18 (by decide) ?_
      refine lv_icmp_ne (tgt := 40) hx hb dX7_functionOf_19 (by decide) (fun c_3 => ?_) (fun c_3 => ?_)
      · rw [if_pos (c_3)] at hf
        refine lv_iload_n hx hb dX7_functionOf_40 rfl (lv_at hl 0 rfl) ?_
        refine lv_iconst (v := 3) hx hb dX7_functionOf_41 (by decide) ?_
        refine lv_icmp_ne (tgt := 52) hx hb dX7_functionOf_42 (by decide) (fun c_4 => ?_) (fun c_4 => ?_)
        · rw [if_pos (c_4)] at hf
          refine lv_iload_n hx hb dX7_functionOf_52 rfl (lv_at hl 1 rfl) ?_
          refine lv_bipush (v := (36 : Int32)) hx hb dX7_functionOf_53 (by decide) ?_
          refine lv_iadd hx hb dX7_functionOf_55 ?_
          cases hf
          exact W.iret hx hb hr (fun t ht hW => ⟨_, rfl, rfl, ht⟩) (fun q hq => by cases hq) dX7_functionOf_56 hlocks
        · rw [if_neg (not_not_intro c_4)] at hf
          refine lv_iload_n hx hb dX7_functionOf_45 rfl (lv_at hl 1 rfl) ?_
          refine lv_bipush (v := (27 : Int32)) hx hb dX7_functionOf_46 (by decide) ?_
          refine lv_iadd hx hb dX7_functionOf_48 ?_
          refine lv_goto (tgt := 56) hx hb dX7_functionOf_49 (by decide) ?_
          cases hf
          exact W.iret hx hb hr (fun t ht hW => ⟨_, rfl, rfl, ht⟩) (fun q hq => by cases hq) dX7_functionOf_56 hlocks
      · rw [if_neg (not_not_intro c_3)] at hf
        refine lv_iload_n hx hb dX7_functionOf_22 rfl (lv_at hl 1 rfl) ?_
        refine lv_if_ge (tgt := 33) hx hb dX7_functionOf_23 (by decide) (fun c_5 => ?_) (fun c_5 => ?_)
        · rw [if_pos (c_5)] at hf
          refine lv_iload_n hx hb dX7_functionOf_33 rfl (lv_at hl 1 rfl) ?_
          refine lv_bipush (v := (18 : Int32)) hx hb dX7_functionOf_34 (by decide) ?_
          refine lv_iadd hx hb dX7_functionOf_36 ?_
          refine lv_goto (tgt := 56) hx hb dX7_functionOf_37 (by decide) ?_
          cases hf
          exact W.iret hx hb hr (fun t ht hW => ⟨_, rfl, rfl, ht⟩) (fun q hq => by cases hq) dX7_functionOf_56 hlocks
        · rw [if_neg (c_5)] at hf
          refine lv_iload_n hx hb dX7_functionOf_26 rfl (lv_at hl 1 rfl) ?_
          refine lv_bipush (v := (19 : Int32)) hx hb dX7_functionOf_27 (by decide) ?_
          refine lv_iadd hx hb dX7_functionOf_29 ?_
          refine lv_goto (tgt := 56) hx hb dX7_functionOf_30 (by decide) ?_
          cases hf
          exact W.iret hx hb hr (fun t ht hW => ⟨_, rfl, rfl, ht⟩) (fun q hq => by cases hq) dX7_functionOf_56 hlocks
    · rw [if_neg (not_not_intro c_2)] at hf
      refine lv_iload_n hx hb dX7_functionOf_13 rfl (lv_at hl 1 rfl) ?_
      refine lv_goto (tgt := 56) hx hb dX7_functionOf_14 (by decide) ?_
      cases hf
      exact W.iret hx hb hr (fun t ht hW => ⟨_, rfl, rfl, ht⟩) (fun q hq => by cases hq) dX7_functionOf_56 hlocks
  · rw [if_neg (not_not_intro c_1)] at hf
    refine lv_iconst (v := 0) hx hb dX7_functionOf_4 (by decide) ?_
    refine lv_goto (tgt := 56) hx hb dX7_functionOf_5 (by decide) ?_
    cases hf
    exact W.iret hx hb hr (fun t ht hW => ⟨_, rfl, rfl, ht⟩) (fun q hq => by cases hq) dX7_functionOf_56 hlocks

set_option maxRecDepth 100000 in
theorem m_X7_functionOf (l : Launch) (G : va_G) (cA : Nat → ClassId) (a0 : Int32) (a1 : Int32) (res : Int32) (hf : f_X7_functionOf a0 a1 = some res) : MRi l yX7_functionOf (.code yX7_functionOf cX7_functionOf 2 (some .int) :: wd) rm_X7_functionOf G cA [.int a0, .int a1] [] res := by
  refine Met.ofW (cc := cX7_functionOf) (maxL := 2) (ret := (some .int)) (by decide) rfl ?_
  intro p e s m args below meth c s₁ B hml hv
  obtain ⟨rfl, hK, hR⟩ := hv
  have C0 : Amb p s m ([.int a0, .int a1] : List Value).toArray meth c cX7_functionOf RX7 2 (some .int) G cA (fun _ : Nat => False) [] := ⟨B.exec, B.bytes, B.returns, hml, findClass_of_methodNamed B.named, fun w h => atoms_spec (ws := (.code yX7_functionOf cX7_functionOf 2 (some .int) :: wd)) B.pre w (List.mem_cons_of_mem _ h), B.notSynchronized, hK, hR, fun _ _ _ h => h⟩
  have hl := lv_entry ([.int a0, .int a1]) (n := 2) (Nat.le_of_ble_eq_true rfl)
  rw [lg_entry_eq]
  generalize (lg_sl ([.int a0, .int a1]) ++ List.replicate (2 - (lg_sl ([.int a0, .int a1])).length) Slot.unset).toArray = ls at hl ⊢
  have hl : lv_has ls 2 [(0, .int a0), (1, .int a1)] := hl
  exact b_X7_functionOf_0    C0 a0 a1 ls hl hf
theorem cw_X7_functionOf {R : Room} {s : State} {args : Array Value} {own : String} {index : Nat} (ht : ∀ w ∈ wd, w.before args s = true) (hlink : Cond.methodLink own index yX7_functionOf ∈ wd) (hR : rm_X7_functionOf.frames + 1 ≤ R.frames ∧ 8 + (2 + 11) + rm_X7_functionOf.locals ≤ R.locals) : CallB R s args own index yX7_functionOf cX7_functionOf 2 (some .int) (.code yX7_functionOf cX7_functionOf 2 (some .int) :: wd) rm_X7_functionOf 0 0 2 ∧ (Cond.static yX7_functionOf).before args s = true := cwS9 2 ht wi_778 wi_777 wi_60 hlink (by decide +kernel) rfl rfl hR
def rm_X7_gcd : Room := { frames := 0, cells := 0, slots := 0, locals := 0 }
def f_X7_gcd_28  : Nat → Int64 → Int64 → Option (Int64)
  | 0, _, _ => none
  | fu + 1, x4, x6 => if x6 = (0 : Int64) then some x4 else if ¬ x6 = 0 then (some ((x4 - x4 / x6 * x6))).bind fun y_3 => f_X7_gcd_28  fu x6 y_3 else none
set_option maxHeartbeats 4000000 in
set_option maxRecDepth 100000 in
theorem b_X7_gcd_28 {p : Program} {l : Launch} {e : Env} {s : State} {m : MethodId} {args : Array Value} {below : List Frame} {meth : Method} {c : Code} {G : va_G} {cA : Nat → ClassId} (C0 : Amb p s m args meth c cX7_gcd RX7 10 (some .long) G cA (fun _ : Nat => False) []) {res : Int64} : ∀ (fu : Nat) (x4 : Int64) (x6 : Int64) (ls : Array Slot), lv_has ls 10 [(4, .long x4), (6, .long x6)] → f_X7_gcd_28 fu x4 x6 = some res → W p l e rm_X7_gcd s m args below meth c s.heap [] 0 0 (MQ below (vp_Sl (fun x => x = res)) args s 0 0 (fun _ : Nat => False)) (F0 m 28 ls []) := by
  obtain ⟨hx, hb, hr, hml, hown, hts, hlocks, hK, hR, hRA⟩ := id C0
  intro fu
  induction fu with
  | zero =>
    intro x4 x6 ls hl hf
    rw [f_X7_gcd_28] at hf
    cases hf
  | succ fu ih =>
    intro x4 x6 ls hl hf
    rw [f_X7_gcd_28] at hf
    refine lv_lload hx hb dX7_gcd_28 (lv_at hl 1 rfl) ?_
    refine lv_lconst (v := (0 : Int64)) hx hb dX7_gcd_30 (by decide) ?_
    refine W.lcmp hx hb dX7_gcd_31 ?_
    refine lv_if_eq (tgt := 53) hx hb dX7_gcd_32 (by decide) (fun c_1 => ?_) (fun c_1 => ?_)
    · rw [if_pos ((lg_cmp_eq _ _).mp c_1)] at hf
      refine lv_lload hx hb dX7_gcd_53 (lv_at hl 0 rfl) ?_
      cases hf
      exact W.lret hx hb hr (fun t ht hW => ⟨_, rfl, rfl, ht⟩) (fun q hq => by cases hq) dX7_gcd_55 hlocks
    · rw [if_neg (fun h => c_1 ((lg_cmp_eq _ _).mpr h))] at hf
      refine lv_lload hx hb dX7_gcd_35 (lv_at hl 0 rfl) ?_
      refine lv_lload hx hb dX7_gcd_37 (lv_at hl 1 rfl) ?_
      obtain ⟨hn_2, hf⟩ := oif hf
      refine lv_lrem hx hb dX7_gcd_39 hn_2 ?_
      obtain ⟨y_3, hq, hf⟩ := obd hf
      have hy_3 : (x4 - x4 / x6 * x6) = y_3 := Option.some.inj hq
      rw [hy_3]
      refine lv_lstore (lv' := [(8, .long y_3), (4, .long x4), (6, .long x6)]) hx hb dX7_gcd_40 hl (by decide) rfl (fun ls hl => ?_)
      refine lv_lload hx hb dX7_gcd_42 (lv_at hl 2 rfl) ?_
      refine lv_lstore (lv' := [(4, .long x6), (8, .long y_3), (6, .long x6)]) hx hb dX7_gcd_44 hl (by decide) rfl (fun ls hl => ?_)
      refine lv_lload hx hb dX7_gcd_46 (lv_at hl 1 rfl) ?_
      refine lv_lstore (lv' := [(6, .long y_3), (4, .long x6), (8, .long y_3)]) hx hb dX7_gcd_48 hl (by decide) rfl (fun ls hl => ?_)
      refine lv_goto (tgt := 28) hx hb dX7_gcd_50 (by decide) ?_
      exact ih x6 y_3 ls (lv_sub hl [1, 0] rfl) hf
def f_X7_gcd_26 (x4 : Int64) (v0 : Int64) : Option (Int64) := f_X7_gcd_28 fuel x4 v0
set_option maxHeartbeats 4000000 in
set_option maxRecDepth 100000 in
theorem b_X7_gcd_26 {p : Program} {l : Launch} {e : Env} {s : State} {m : MethodId} {args : Array Value} {below : List Frame} {meth : Method} {c : Code} {G : va_G} {cA : Nat → ClassId} (C0 : Amb p s m args meth c cX7_gcd RX7 10 (some .long) G cA (fun _ : Nat => False) []) {res : Int64} : ∀ (x4 : Int64) (v0 : Int64) (ls : Array Slot), lv_has ls 10 [(4, .long x4)] → f_X7_gcd_26 x4 v0 = some res → W p l e rm_X7_gcd s m args below meth c s.heap [] 0 0 (MQ below (vp_Sl (fun x => x = res)) args s 0 0 (fun _ : Nat => False)) (F0 m 26 ls [.long v0]) := by
  obtain ⟨hx, hb, hr, hml, hown, hts, hlocks, hK, hR, hRA⟩ := id C0
  intro x4 v0 ls hl hf
  unfold f_X7_gcd_26 at hf
  refine lv_lstore (lv' := [(6, .long v0), (4, .long x4)]) hx hb dX7_gcd_26 hl (by decide) rfl (fun ls hl => ?_)
  exact b_X7_gcd_28    C0  fuel x4 v0 ls (lv_sub hl [1, 0] rfl) hf
def f_X7_gcd_12 (x2 : Int64) (v0 : Int64) : Option (Int64) := if (0 : Int64) ≤ x2 then f_X7_gcd_26  v0 x2 else f_X7_gcd_26  v0 (-x2)
set_option maxHeartbeats 4000000 in
set_option maxRecDepth 100000 in
theorem b_X7_gcd_12 {p : Program} {l : Launch} {e : Env} {s : State} {m : MethodId} {args : Array Value} {below : List Frame} {meth : Method} {c : Code} {G : va_G} {cA : Nat → ClassId} (C0 : Amb p s m args meth c cX7_gcd RX7 10 (some .long) G cA (fun _ : Nat => False) []) {res : Int64} : ∀ (x2 : Int64) (v0 : Int64) (ls : Array Slot), lv_has ls 10 [(2, .long x2)] → f_X7_gcd_12 x2 v0 = some res → W p l e rm_X7_gcd s m args below meth c s.heap [] 0 0 (MQ below (vp_Sl (fun x => x = res)) args s 0 0 (fun _ : Nat => False)) (F0 m 12 ls [.long v0]) := by
  obtain ⟨hx, hb, hr, hml, hown, hts, hlocks, hK, hR, hRA⟩ := id C0
  intro x2 v0 ls hl hf
  unfold f_X7_gcd_12 at hf
  refine lv_lstore (lv' := [(4, .long v0), (2, .long x2)]) hx hb dX7_gcd_12 hl (by decide) rfl (fun ls hl => ?_)
  refine lv_lload_n hx hb dX7_gcd_14 rfl (lv_at hl 1 rfl) ?_
  refine lv_lconst (v := (0 : Int64)) hx hb dX7_gcd_15 (by decide) ?_
  refine W.lcmp hx hb dX7_gcd_16 ?_
  refine lv_if_ge (tgt := 25) hx hb dX7_gcd_17 (by decide) (fun c_1 => ?_) (fun c_1 => ?_)
  · rw [if_pos ((lg_cmp_ge _ _).mp c_1)] at hf
    refine lv_lload_n hx hb dX7_gcd_25 rfl (lv_at hl 1 rfl) ?_
    exact b_X7_gcd_26    C0  v0 x2 ls (lv_sub hl [0] rfl) hf
  · rw [if_neg (fun h => c_1 ((lg_cmp_ge _ _).mpr h))] at hf
    refine lv_lload_n hx hb dX7_gcd_20 rfl (lv_at hl 1 rfl) ?_
    refine lv_lneg hx hb dX7_gcd_21 ?_
    refine lv_goto (tgt := 26) hx hb dX7_gcd_22 (by decide) ?_
    exact b_X7_gcd_26    C0  v0 (-x2) ls (lv_sub hl [0] rfl) hf
def f_X7_gcd (a0 : Int64) (a2 : Int64) : Option (Int64) := if (0 : Int64) ≤ a0 then f_X7_gcd_12  a2 a0 else f_X7_gcd_12  a2 (-a0)
set_option maxHeartbeats 4000000 in
set_option maxRecDepth 100000 in
theorem b_X7_gcd_0 {p : Program} {l : Launch} {e : Env} {s : State} {m : MethodId} {args : Array Value} {below : List Frame} {meth : Method} {c : Code} {G : va_G} {cA : Nat → ClassId} (C0 : Amb p s m args meth c cX7_gcd RX7 10 (some .long) G cA (fun _ : Nat => False) []) {res : Int64} : ∀ (a0 : Int64) (a2 : Int64) (ls : Array Slot), lv_has ls 10 [(0, .long a0), (2, .long a2)] → f_X7_gcd a0 a2 = some res → W p l e rm_X7_gcd s m args below meth c s.heap [] 0 0 (MQ below (vp_Sl (fun x => x = res)) args s 0 0 (fun _ : Nat => False)) (F0 m 0 ls []) := by
  obtain ⟨hx, hb, hr, hml, hown, hts, hlocks, hK, hR, hRA⟩ := id C0
  intro a0 a2 ls hl hf
  unfold f_X7_gcd at hf
  refine lv_lload_n hx hb dX7_gcd_0 rfl (lv_at hl 0 rfl) ?_
  refine lv_lconst (v := (0 : Int64)) hx hb dX7_gcd_1 (by decide) ?_
  refine W.lcmp hx hb dX7_gcd_2 ?_
  refine lv_if_ge (tgt := 11) hx hb dX7_gcd_3 (by decide) (fun c_1 => ?_) (fun c_1 => ?_)
  · rw [if_pos ((lg_cmp_ge _ _).mp c_1)] at hf
    refine lv_lload_n hx hb dX7_gcd_11 rfl (lv_at hl 0 rfl) ?_
    exact b_X7_gcd_12    C0  a2 a0 ls (lv_sub hl [1] rfl) hf
  · rw [if_neg (fun h => c_1 ((lg_cmp_ge _ _).mpr h))] at hf
    refine lv_lload_n hx hb dX7_gcd_6 rfl (lv_at hl 0 rfl) ?_
    refine lv_lneg hx hb dX7_gcd_7 ?_
    refine lv_goto (tgt := 12) hx hb dX7_gcd_8 (by decide) ?_
    exact b_X7_gcd_12    C0  a2 (-a0) ls (lv_sub hl [1] rfl) hf

set_option maxRecDepth 100000 in
theorem m_X7_gcd (l : Launch) (G : va_G) (cA : Nat → ClassId) (a0 : Int64) (a2 : Int64) (res : Int64) (hf : f_X7_gcd a0 a2 = some res) : MRl l yX7_gcd (.code yX7_gcd cX7_gcd 10 (some .long) :: wd) rm_X7_gcd G cA [.long a0, .long a2] [] res := by
  refine Met.ofW (cc := cX7_gcd) (maxL := 10) (ret := (some .long)) (by decide) rfl ?_
  intro p e s m args below meth c s₁ B hml hv
  obtain ⟨rfl, hK, hR⟩ := hv
  have C0 : Amb p s m ([.long a0, .long a2] : List Value).toArray meth c cX7_gcd RX7 10 (some .long) G cA (fun _ : Nat => False) [] := ⟨B.exec, B.bytes, B.returns, hml, findClass_of_methodNamed B.named, fun w h => atoms_spec (ws := (.code yX7_gcd cX7_gcd 10 (some .long) :: wd)) B.pre w (List.mem_cons_of_mem _ h), B.notSynchronized, hK, hR, fun _ _ _ h => h⟩
  have hl := lv_entry ([.long a0, .long a2]) (n := 10) (Nat.le_of_ble_eq_true rfl)
  rw [lg_entry_eq]
  generalize (lg_sl ([.long a0, .long a2]) ++ List.replicate (10 - (lg_sl ([.long a0, .long a2])).length) Slot.unset).toArray = ls at hl ⊢
  have hl : lv_has ls 10 [(0, .long a0), (2, .long a2)] := hl
  exact b_X7_gcd_0    C0 a0 a2 ls hl hf
theorem cw_X7_gcd {R : Room} {s : State} {args : Array Value} {own : String} {index : Nat} (ht : ∀ w ∈ wd, w.before args s = true) (hlink : Cond.methodLink own index yX7_gcd ∈ wd) (hR : rm_X7_gcd.frames + 1 ≤ R.frames ∧ 8 + (10 + 11) + rm_X7_gcd.locals ≤ R.locals) : CallB R s args own index yX7_gcd cX7_gcd 10 (some .long) (.code yX7_gcd cX7_gcd 10 (some .long) :: wd) rm_X7_gcd 0 0 2 ∧ (Cond.static yX7_gcd).before args s = true := cwS9 2 ht wi_771 wi_770 wi_60 hlink (by decide +kernel) rfl rfl hR
def rm_X7_isDigit : Room := { frames := 0, cells := 0, slots := 0, locals := 0 }
def f_X7_isDigit (a0 : Int32) : Option (Int32) := if a0 < (48 : Int32) then some (0 : Int32) else if (57 : Int32) < a0 then some (0 : Int32) else some (1 : Int32)
set_option maxHeartbeats 4000000 in
set_option maxRecDepth 100000 in
theorem b_X7_isDigit_0 {p : Program} {l : Launch} {e : Env} {s : State} {m : MethodId} {args : Array Value} {below : List Frame} {meth : Method} {c : Code} {G : va_G} {cA : Nat → ClassId} (C0 : Amb p s m args meth c cX7_isDigit RX7 1 (some .boolean) G cA (fun _ : Nat => False) []) {res : Int32} : ∀ (a0 : Int32) (ls : Array Slot), lv_has ls 1 [(0, .int a0)] → f_X7_isDigit a0 = some res → W p l e rm_X7_isDigit s m args below meth c s.heap [] 0 0 (MQ below (vp_Si (fun x => x = res)) args s 0 0 (fun _ : Nat => False)) (F0 m 0 ls []) := by
  obtain ⟨hx, hb, hr, hml, hown, hts, hlocks, hK, hR, hRA⟩ := id C0
  intro a0 ls hl hf
  unfold f_X7_isDigit at hf
  refine lv_iload_n hx hb dX7_isDigit_0 rfl (lv_at hl 0 rfl) ?_
  refine lv_bipush (v := (48 : Int32)) hx hb dX7_isDigit_1 (by decide) ?_
  refine lv_icmp_lt (tgt := 16) hx hb dX7_isDigit_3 (by decide) (fun c_1 => ?_) (fun c_1 => ?_)
  · rw [if_pos (c_1)] at hf
    refine lv_iconst (v := 0) hx hb dX7_isDigit_16 (by decide) ?_
    cases hf
    exact W.zret hx hb hr (by decide) (fun t ht hW => ⟨_, rfl, rfl, ht⟩) (fun q hq => by cases hq) dX7_isDigit_17 hlocks
  · rw [if_neg (c_1)] at hf
    refine lv_iload_n hx hb dX7_isDigit_6 rfl (lv_at hl 0 rfl) ?_
    refine lv_bipush (v := (57 : Int32)) hx hb dX7_isDigit_7 (by decide) ?_
    refine lv_icmp_gt (tgt := 16) hx hb dX7_isDigit_9 (by decide) (fun c_2 => ?_) (fun c_2 => ?_)
    · rw [if_pos (c_2)] at hf
      refine lv_iconst (v := 0) hx hb dX7_isDigit_16 (by decide) ?_
      cases hf
      exact W.zret hx hb hr (by decide) (fun t ht hW => ⟨_, rfl, rfl, ht⟩) (fun q hq => by cases hq) dX7_isDigit_17 hlocks
    · rw [if_neg (c_2)] at hf
      refine lv_iconst (v := 1) hx hb dX7_isDigit_12 (by decide) ?_
      refine lv_goto (tgt := 17) hx hb dX7_isDigit_13 (by decide) ?_
      cases hf
      exact W.zret hx hb hr (by decide) (fun t ht hW => ⟨_, rfl, rfl, ht⟩) (fun q hq => by cases hq) dX7_isDigit_17 hlocks

set_option maxRecDepth 100000 in
theorem m_X7_isDigit (l : Launch) (G : va_G) (cA : Nat → ClassId) (a0 : Int32) (res : Int32) (hf : f_X7_isDigit a0 = some res) : MRi l yX7_isDigit (.code yX7_isDigit cX7_isDigit 1 (some .boolean) :: wd) rm_X7_isDigit G cA [.int a0] [] res := by
  refine Met.ofW (cc := cX7_isDigit) (maxL := 1) (ret := (some .boolean)) (by decide) rfl ?_
  intro p e s m args below meth c s₁ B hml hv
  obtain ⟨rfl, hK, hR⟩ := hv
  have C0 : Amb p s m ([.int a0] : List Value).toArray meth c cX7_isDigit RX7 1 (some .boolean) G cA (fun _ : Nat => False) [] := ⟨B.exec, B.bytes, B.returns, hml, findClass_of_methodNamed B.named, fun w h => atoms_spec (ws := (.code yX7_isDigit cX7_isDigit 1 (some .boolean) :: wd)) B.pre w (List.mem_cons_of_mem _ h), B.notSynchronized, hK, hR, fun _ _ _ h => h⟩
  have hl := lv_entry ([.int a0]) (n := 1) (Nat.le_of_ble_eq_true rfl)
  rw [lg_entry_eq]
  generalize (lg_sl ([.int a0]) ++ List.replicate (1 - (lg_sl ([.int a0])).length) Slot.unset).toArray = ls at hl ⊢
  have hl : lv_has ls 1 [(0, .int a0)] := hl
  exact b_X7_isDigit_0    C0 a0 ls hl hf
theorem cw_X7_isDigit {R : Room} {s : State} {args : Array Value} {own : String} {index : Nat} (ht : ∀ w ∈ wd, w.before args s = true) (hlink : Cond.methodLink own index yX7_isDigit ∈ wd) (hR : rm_X7_isDigit.frames + 1 ≤ R.frames ∧ 8 + (1 + 11) + rm_X7_isDigit.locals ≤ R.locals) : CallB R s args own index yX7_isDigit cX7_isDigit 1 (some .boolean) (.code yX7_isDigit cX7_isDigit 1 (some .boolean) :: wd) rm_X7_isDigit 0 0 1 ∧ (Cond.static yX7_isDigit).before args s = true := cwS9 1 ht wi_756 wi_755 wi_60 hlink (by decide +kernel) rfl rfl hR
def rm_X7_clash : Room := { frames := 0, cells := 0, slots := 0, locals := 0 }
def f_X7_clash_20  : Option (Int32) := some (1 : Int32)
set_option maxHeartbeats 4000000 in
set_option maxRecDepth 100000 in
theorem b_X7_clash_20 {p : Program} {l : Launch} {e : Env} {s : State} {m : MethodId} {args : Array Value} {below : List Frame} {meth : Method} {c : Code} {G : va_G} {cA : Nat → ClassId} (C0 : Amb p s m args meth c cX7_clash RX7 2 (some .boolean) G cA (fun _ : Nat => False) []) {res : Int32} : ∀ (ls : Array Slot), lv_has ls 2 [] → f_X7_clash_20  = some res → W p l e rm_X7_clash s m args below meth c s.heap [] 0 0 (MQ below (vp_Si (fun x => x = res)) args s 0 0 (fun _ : Nat => False)) (F0 m 20 ls []) := by
  obtain ⟨hx, hb, hr, hml, hown, hts, hlocks, hK, hR, hRA⟩ := id C0
  intro ls hl hf
  unfold f_X7_clash_20 at hf
  refine lv_iconst (v := 1) hx hb dX7_clash_20 (by decide) ?_
  refine lv_goto (tgt := 25) hx hb dX7_clash_21 (by decide) ?_
  cases hf
  exact W.zret hx hb hr (by decide) (fun t ht hW => ⟨_, rfl, rfl, ht⟩) (fun q hq => by cases hq) dX7_clash_25 hlocks
def f_X7_clash_10 (x0 : Int32) (x1 : Int32) : Option (Int32) := if ¬ x0 = (2 : Int32) then some (0 : Int32) else if x1 ≤ (2 : Int32) then some (0 : Int32) else f_X7_clash_20
set_option maxHeartbeats 4000000 in
set_option maxRecDepth 100000 in
theorem b_X7_clash_10 {p : Program} {l : Launch} {e : Env} {s : State} {m : MethodId} {args : Array Value} {below : List Frame} {meth : Method} {c : Code} {G : va_G} {cA : Nat → ClassId} (C0 : Amb p s m args meth c cX7_clash RX7 2 (some .boolean) G cA (fun _ : Nat => False) []) {res : Int32} : ∀ (x0 : Int32) (x1 : Int32) (ls : Array Slot), lv_has ls 2 [(0, .int x0), (1, .int x1)] → f_X7_clash_10 x0 x1 = some res → W p l e rm_X7_clash s m args below meth c s.heap [] 0 0 (MQ below (vp_Si (fun x => x = res)) args s 0 0 (fun _ : Nat => False)) (F0 m 10 ls []) := by
  obtain ⟨hx, hb, hr, hml, hown, hts, hlocks, hK, hR, hRA⟩ := id C0
  intro x0 x1 ls hl hf
  unfold f_X7_clash_10 at hf
  refine lv_iload_n hx hb dX7_clash_10 rfl (lv_at hl 0 rfl) ?_
  refine lv_iconst (v := 2) hx hb dX7_clash_11 (by decide) ?_
  refine lv_icmp_ne (tgt := 24) hx hb dX7_clash_12 (by decide) (fun c_1 => ?_) (fun c_1 => ?_)
  · rw [if_pos (c_1)] at hf
    refine lv_iconst (v := 0) hx hb dX7_clash_24 (by decide) ?_
    cases hf
    exact W.zret hx hb hr (by decide) (fun t ht hW => ⟨_, rfl, rfl, ht⟩) (fun q hq => by cases hq) dX7_clash_25 hlocks
  · rw [if_neg (not_not_intro c_1)] at hf
    refine lv_iload_n hx hb dX7_clash_15 rfl (lv_at hl 1 rfl) ?_
    refine lv_iconst (v := 2) hx hb dX7_clash_16 (by decide) ?_
    refine lv_icmp_le (tgt := 24) hx hb dX7_clash_17 (by decide) (fun c_2 => ?_) (fun c_2 => ?_)
    · rw [if_pos (c_2)] at hf
      refine lv_iconst (v := 0) hx hb dX7_clash_24 (by decide) ?_
      cases hf
      exact W.zret hx hb hr (by decide) (fun t ht hW => ⟨_, rfl, rfl, ht⟩) (fun q hq => by cases hq) dX7_clash_25 hlocks
    · rw [if_neg (c_2)] at hf
      exact b_X7_clash_20    C0   ls (lv_sub hl [] rfl) hf
def f_X7_clash (a0 : Int32) (a1 : Int32) : Option (Int32) := if ¬ a0 = (1 : Int32) then f_X7_clash_10  a0 a1 else if (1 : Int32) < a1 then f_X7_clash_20 else f_X7_clash_10  a0 a1
set_option maxHeartbeats 4000000 in
set_option maxRecDepth 100000 in
theorem b_X7_clash_0 {p : Program} {l : Launch} {e : Env} {s : State} {m : MethodId} {args : Array Value} {below : List Frame} {meth : Method} {c : Code} {G : va_G} {cA : Nat → ClassId} (C0 : Amb p s m args meth c cX7_clash RX7 2 (some .boolean) G cA (fun _ : Nat => False) []) {res : Int32} : ∀ (a0 : Int32) (a1 : Int32) (ls : Array Slot), lv_has ls 2 [(0, .int a0), (1, .int a1)] → f_X7_clash a0 a1 = some res → W p l e rm_X7_clash s m args below meth c s.heap [] 0 0 (MQ below (vp_Si (fun x => x = res)) args s 0 0 (fun _ : Nat => False)) (F0 m 0 ls []) := by
  obtain ⟨hx, hb, hr, hml, hown, hts, hlocks, hK, hR, hRA⟩ := id C0
  intro a0 a1 ls hl hf
  unfold f_X7_clash at hf
  refine lv_iload_n hx hb dX7_clash_0 rfl (lv_at hl 0 rfl) ?_
  refine lv_iconst (v := 1) hx hb dX7_clash_1 (by decide) ?_
  refine lv_icmp_ne (tgt := 10) hx hb dX7_clash_2 (by decide) (fun c_1 => ?_) (fun c_1 => ?_)
  · rw [if_pos (c_1)] at hf
    exact b_X7_clash_10    C0  a0 a1 ls (lv_sub hl [0, 1] rfl) hf
  · rw [if_neg (not_not_intro c_1)] at hf
    refine lv_iload_n hx hb dX7_clash_5 rfl (lv_at hl 1 rfl) ?_
    refine lv_iconst (v := 1) hx hb dX7_clash_6 (by decide) ?_
    refine lv_icmp_gt (tgt := 20) hx hb dX7_clash_7 (by decide) (fun c_2 => ?_) (fun c_2 => ?_)
    · rw [if_pos (c_2)] at hf
      exact b_X7_clash_20    C0   ls (lv_sub hl [] rfl) hf
    · rw [if_neg (c_2)] at hf
      exact b_X7_clash_10    C0  a0 a1 ls (lv_sub hl [0, 1] rfl) hf

set_option maxRecDepth 100000 in
theorem m_X7_clash (l : Launch) (G : va_G) (cA : Nat → ClassId) (a0 : Int32) (a1 : Int32) (res : Int32) (hf : f_X7_clash a0 a1 = some res) : MRi l yX7_clash (.code yX7_clash cX7_clash 2 (some .boolean) :: wd) rm_X7_clash G cA [.int a0, .int a1] [] res := by
  refine Met.ofW (cc := cX7_clash) (maxL := 2) (ret := (some .boolean)) (by decide) rfl ?_
  intro p e s m args below meth c s₁ B hml hv
  obtain ⟨rfl, hK, hR⟩ := hv
  have C0 : Amb p s m ([.int a0, .int a1] : List Value).toArray meth c cX7_clash RX7 2 (some .boolean) G cA (fun _ : Nat => False) [] := ⟨B.exec, B.bytes, B.returns, hml, findClass_of_methodNamed B.named, fun w h => atoms_spec (ws := (.code yX7_clash cX7_clash 2 (some .boolean) :: wd)) B.pre w (List.mem_cons_of_mem _ h), B.notSynchronized, hK, hR, fun _ _ _ h => h⟩
  have hl := lv_entry ([.int a0, .int a1]) (n := 2) (Nat.le_of_ble_eq_true rfl)
  rw [lg_entry_eq]
  generalize (lg_sl ([.int a0, .int a1]) ++ List.replicate (2 - (lg_sl ([.int a0, .int a1])).length) Slot.unset).toArray = ls at hl ⊢
  have hl : lv_has ls 2 [(0, .int a0), (1, .int a1)] := hl
  exact b_X7_clash_0    C0 a0 a1 ls hl hf
theorem cw_X7_clash {R : Room} {s : State} {args : Array Value} {own : String} {index : Nat} (ht : ∀ w ∈ wd, w.before args s = true) (hlink : Cond.methodLink own index yX7_clash ∈ wd) (hR : rm_X7_clash.frames + 1 ≤ R.frames ∧ 8 + (2 + 11) + rm_X7_clash.locals ≤ R.locals) : CallB R s args own index yX7_clash cX7_clash 2 (some .boolean) (.code yX7_clash cX7_clash 2 (some .boolean) :: wd) rm_X7_clash 0 0 2 ∧ (Cond.static yX7_clash).before args s = true := cwS9 2 ht wi_860 wi_859 wi_60 hlink (by decide +kernel) rfl rfl hR
def rm_X7_thrown : Room := { frames := 0, cells := 0, slots := 0, locals := 0 }
def f_X7_thrown (zM : MdS) : Option (Int32) := some (gM_refusal zM)
set_option maxHeartbeats 4000000 in
set_option maxRecDepth 100000 in
theorem b_X7_thrown_0 {p : Program} {l : Launch} {e : Env} {s : State} {m : MethodId} {args : Array Value} {below : List Frame} {meth : Method} {c : Code} {G : va_G} {cA : Nat → ClassId} (qM : Nat → Nat) (zM : MdS) (C0 : Amb p s m args meth c cX7_thrown RX7 1 (some .int) G cA (fun _ : Nat => False) ((wMd cA qM zM))) {res : Int32} : ∀ (ls : Array Slot), lv_has ls 1 [(0, .ref (qM 0))] → f_X7_thrown zM = some res → W p l e rm_X7_thrown s m args below meth c s.heap [] 0 0 (MQ below (vp_Si (fun x => x = res)) args s 0 0 (fun _ : Nat => False)) (F0 m 0 ls []) := by
  obtain ⟨hx, hb, hr, hml, hown, hts, hlocks, hK, hR, hRA⟩ := id C0
  intro ls hl hf
  unfold f_X7_thrown at hf
  refine lv_aload_n hx hb dX7_thrown_0 rfl (lv_at hl 0 rfl) ?_
  refine va_get (D := G) (ci := 5) (v := .int (gM_refusal zM)) (C := RX7) (T := TX7) (N := 13) hx hb hts fin_X7 hown hK.1 hR 0 rfl rfl 0 (by decide) (hts _ wi_671) (fun _ h9 => h9) rfl dX7_thrown_1 ?_
  cases hf
  exact W.iret hx hb hr (fun t ht hW => ⟨_, rfl, rfl, ht⟩) (fun q hq => by cases hq) dX7_thrown_4 hlocks

set_option maxRecDepth 100000 in
theorem m_X7_thrown (l : Launch) (G : va_G) (cA : Nat → ClassId) (qM : Nat → Nat) (zM : MdS)  (res : Int32) (hf : f_X7_thrown zM = some res) : MRi l yX7_thrown (.code yX7_thrown cX7_thrown 1 (some .int) :: wd) rm_X7_thrown G cA [.ref (qM 0)] ((wMd cA qM zM)) res := by
  refine Met.ofW (cc := cX7_thrown) (maxL := 1) (ret := (some .int)) (by decide) rfl ?_
  intro p e s m args below meth c s₁ B hml hv
  obtain ⟨rfl, hK, hR⟩ := hv
  have C0 : Amb p s m ([.ref (qM 0)] : List Value).toArray meth c cX7_thrown RX7 1 (some .int) G cA (fun _ : Nat => False) ((wMd cA qM zM)) := ⟨B.exec, B.bytes, B.returns, hml, findClass_of_methodNamed B.named, fun w h => atoms_spec (ws := (.code yX7_thrown cX7_thrown 1 (some .int) :: wd)) B.pre w (List.mem_cons_of_mem _ h), B.notSynchronized, hK, hR, fun _ _ _ h => h⟩
  have hl := lv_entry ([.ref (qM 0)]) (n := 1) (Nat.le_of_ble_eq_true rfl)
  rw [lg_entry_eq]
  generalize (lg_sl ([.ref (qM 0)]) ++ List.replicate (1 - (lg_sl ([.ref (qM 0)])).length) Slot.unset).toArray = ls at hl ⊢
  have hl : lv_has ls 1 [(0, .ref (qM 0))] := hl
  exact b_X7_thrown_0 qM  zM C0  ls hl hf
theorem cw_X7_thrown {R : Room} {s : State} {args : Array Value} {own : String} {index : Nat} (ht : ∀ w ∈ wd, w.before args s = true) (hlink : Cond.methodLink own index yX7_thrown ∈ wd) (hR : rm_X7_thrown.frames + 1 ≤ R.frames ∧ 8 + (1 + 11) + rm_X7_thrown.locals ≤ R.locals) : CallW R s args own RX7 index yX7_thrown cX7_thrown 1 (some .int) (.code yX7_thrown cX7_thrown 1 (some .int) :: wd) rm_X7_thrown 0 0 0 := cwV9 0 ht wi_714 wi_712 wi_713 wi_60 hlink (by decide +kernel) rfl rfl hR
def rm_X7_isOut : Room := { frames := 0, cells := 0, slots := 0, locals := 0 }
def f_X7_isOut_39 (zM : MdS) : Option (Int32) := some (1 : Int32)
set_option maxHeartbeats 4000000 in
set_option maxRecDepth 100000 in
theorem b_X7_isOut_39 {p : Program} {l : Launch} {e : Env} {s : State} {m : MethodId} {args : Array Value} {below : List Frame} {meth : Method} {c : Code} {G : va_G} {cA : Nat → ClassId} (qM : Nat → Nat) (zM : MdS) (C0 : Amb p s m args meth c cX7_isOut RX7 2 (some .boolean) G cA (fun _ : Nat => False) ((wMd cA qM zM))) {res : Int32} : ∀ (ls : Array Slot), lv_has ls 2 [] → f_X7_isOut_39 zM = some res → W p l e rm_X7_isOut s m args below meth c s.heap [] 0 0 (MQ below (vp_Si (fun x => x = res)) args s 0 0 (fun _ : Nat => False)) (F0 m 39 ls []) := by
  obtain ⟨hx, hb, hr, hml, hown, hts, hlocks, hK, hR, hRA⟩ := id C0
  intro ls hl hf
  unfold f_X7_isOut_39 at hf
  refine lv_iconst (v := 1) hx hb dX7_isOut_39 (by decide) ?_
  refine lv_goto (tgt := 44) hx hb dX7_isOut_40 (by decide) ?_
  cases hf
  exact W.zret hx hb hr (by decide) (fun t ht hW => ⟨_, rfl, rfl, ht⟩) (fun q hq => by cases hq) dX7_isOut_44 hlocks
def f_X7_isOut (zM : MdS) (a1 : Int32) : Option (Int32) := if inb a1 11500 = true then if (10000000000 : Int64) < (gM_up zM a1.toNatClampNeg) then f_X7_isOut_39 zM else if inb a1 11500 = true then if (gM_up zM a1.toNatClampNeg) < (-10000000000 : Int64) then f_X7_isOut_39 zM else if inb a1 11500 = true then if (gM_down zM a1.toNatClampNeg) ≤ (100000 : Int64) then some (0 : Int32) else f_X7_isOut_39 zM else none else none else none
set_option maxHeartbeats 4000000 in
set_option maxRecDepth 100000 in
theorem b_X7_isOut_0 {p : Program} {l : Launch} {e : Env} {s : State} {m : MethodId} {args : Array Value} {below : List Frame} {meth : Method} {c : Code} {G : va_G} {cA : Nat → ClassId} (qM : Nat → Nat) (zM : MdS) (C0 : Amb p s m args meth c cX7_isOut RX7 2 (some .boolean) G cA (fun _ : Nat => False) ((wMd cA qM zM))) {res : Int32} : ∀ (a1 : Int32) (ls : Array Slot), lv_has ls 2 [(0, .ref (qM 0)), (1, .int a1)] → f_X7_isOut zM a1 = some res → W p l e rm_X7_isOut s m args below meth c s.heap [] 0 0 (MQ below (vp_Si (fun x => x = res)) args s 0 0 (fun _ : Nat => False)) (F0 m 0 ls []) := by
  obtain ⟨hx, hb, hr, hml, hown, hts, hlocks, hK, hR, hRA⟩ := id C0
  intro a1 ls hl hf
  unfold f_X7_isOut at hf
  refine lv_aload_n hx hb dX7_isOut_0 rfl (lv_at hl 0 rfl) ?_
  refine va_get (D := G) (ci := 5) (v := .ref (qM 3)) (C := RX7) (T := TX7) (N := 13) hx hb hts fin_X7 hown hK.1 hR 0 rfl rfl 6 (by decide) (hts _ wi_677) (fun _ h9 => h9) rfl dX7_isOut_1 ?_
  refine lv_iload_n hx hb dX7_isOut_4 rfl (lv_at hl 1 rfl) ?_
  obtain ⟨hi_1, hf⟩ := oif hf
  refine va_lald hx hb hK.1 hR 3 1 rfl rfl (inb_in hi_1) dX7_isOut_5 ?_
  refine lv_ldc2 (v := (10000000000 : Int64)) hx hb hown (hts _ wi_787) dX7_isOut_6 ?_
  refine W.lcmp hx hb dX7_isOut_9 ?_
  refine lv_if_gt (tgt := 39) hx hb dX7_isOut_10 (by decide) (fun c_2 => ?_) (fun c_2 => ?_)
  · rw [if_pos ((lg_cmp_gt _ _).mp c_2)] at hf
    exact b_X7_isOut_39 qM  zM C0   ls (lv_sub hl [] rfl) hf
  · rw [if_neg (fun h => c_2 ((lg_cmp_gt _ _).mpr h))] at hf
    refine lv_aload_n hx hb dX7_isOut_13 rfl (lv_at hl 0 rfl) ?_
    refine va_get (D := G) (ci := 5) (v := .ref (qM 3)) (C := RX7) (T := TX7) (N := 13) hx hb hts fin_X7 hown hK.1 hR 0 rfl rfl 6 (by decide) (hts _ wi_677) (fun _ h9 => h9) rfl dX7_isOut_14 ?_
    refine lv_iload_n hx hb dX7_isOut_17 rfl (lv_at hl 1 rfl) ?_
    obtain ⟨hi_3, hf⟩ := oif hf
    refine va_lald hx hb hK.1 hR 3 1 rfl rfl (inb_in hi_3) dX7_isOut_18 ?_
    refine lv_ldc2 (v := (-10000000000 : Int64)) hx hb hown (hts _ wi_788) dX7_isOut_19 ?_
    refine W.lcmp hx hb dX7_isOut_22 ?_
    refine lv_if_lt (tgt := 39) hx hb dX7_isOut_23 (by decide) (fun c_4 => ?_) (fun c_4 => ?_)
    · rw [if_pos ((lg_cmp_lt _ _).mp c_4)] at hf
      exact b_X7_isOut_39 qM  zM C0   ls (lv_sub hl [] rfl) hf
    · rw [if_neg (fun h => c_4 ((lg_cmp_lt _ _).mpr h))] at hf
      refine lv_aload_n hx hb dX7_isOut_26 rfl (lv_at hl 0 rfl) ?_
      refine va_get (D := G) (ci := 5) (v := .ref (qM 4)) (C := RX7) (T := TX7) (N := 13) hx hb hts fin_X7 hown hK.1 hR 0 rfl rfl 7 (by decide) (hts _ wi_678) (fun _ h9 => h9) rfl dX7_isOut_27 ?_
      refine lv_iload_n hx hb dX7_isOut_30 rfl (lv_at hl 1 rfl) ?_
      obtain ⟨hi_5, hf⟩ := oif hf
      refine va_lald hx hb hK.1 hR 4 1 rfl rfl (inb_in hi_5) dX7_isOut_31 ?_
      refine lv_ldc2 (v := (100000 : Int64)) hx hb hown (hts _ wi_789) dX7_isOut_32 ?_
      refine W.lcmp hx hb dX7_isOut_35 ?_
      refine lv_if_le (tgt := 43) hx hb dX7_isOut_36 (by decide) (fun c_6 => ?_) (fun c_6 => ?_)
      · rw [if_pos ((lg_cmp_le _ _).mp c_6)] at hf
        refine lv_iconst (v := 0) hx hb dX7_isOut_43 (by decide) ?_
        cases hf
        exact W.zret hx hb hr (by decide) (fun t ht hW => ⟨_, rfl, rfl, ht⟩) (fun q hq => by cases hq) dX7_isOut_44 hlocks
      · rw [if_neg (fun h => c_6 ((lg_cmp_le _ _).mpr h))] at hf
        exact b_X7_isOut_39 qM  zM C0   ls (lv_sub hl [] rfl) hf

set_option maxRecDepth 100000 in
theorem m_X7_isOut (l : Launch) (G : va_G) (cA : Nat → ClassId) (qM : Nat → Nat) (zM : MdS) (a1 : Int32) (res : Int32) (hf : f_X7_isOut zM a1 = some res) : MRi l yX7_isOut (.code yX7_isOut cX7_isOut 2 (some .boolean) :: wd) rm_X7_isOut G cA [.ref (qM 0), .int a1] ((wMd cA qM zM)) res := by
  refine Met.ofW (cc := cX7_isOut) (maxL := 2) (ret := (some .boolean)) (by decide) rfl ?_
  intro p e s m args below meth c s₁ B hml hv
  obtain ⟨rfl, hK, hR⟩ := hv
  have C0 : Amb p s m ([.ref (qM 0), .int a1] : List Value).toArray meth c cX7_isOut RX7 2 (some .boolean) G cA (fun _ : Nat => False) ((wMd cA qM zM)) := ⟨B.exec, B.bytes, B.returns, hml, findClass_of_methodNamed B.named, fun w h => atoms_spec (ws := (.code yX7_isOut cX7_isOut 2 (some .boolean) :: wd)) B.pre w (List.mem_cons_of_mem _ h), B.notSynchronized, hK, hR, fun _ _ _ h => h⟩
  have hl := lv_entry ([.ref (qM 0), .int a1]) (n := 2) (Nat.le_of_ble_eq_true rfl)
  rw [lg_entry_eq]
  generalize (lg_sl ([.ref (qM 0), .int a1]) ++ List.replicate (2 - (lg_sl ([.ref (qM 0), .int a1])).length) Slot.unset).toArray = ls at hl ⊢
  have hl : lv_has ls 2 [(0, .ref (qM 0)), (1, .int a1)] := hl
  exact b_X7_isOut_0 qM  zM C0 a1 ls hl hf
theorem cw_X7_isOut {R : Room} {s : State} {args : Array Value} {own : String} {index : Nat} (ht : ∀ w ∈ wd, w.before args s = true) (hlink : Cond.methodLink own index yX7_isOut ∈ wd) (hR : rm_X7_isOut.frames + 1 ≤ R.frames ∧ 8 + (2 + 11) + rm_X7_isOut.locals ≤ R.locals) : CallW R s args own RX7 index yX7_isOut cX7_isOut 2 (some .boolean) (.code yX7_isOut cX7_isOut 2 (some .boolean) :: wd) rm_X7_isOut 0 0 1 := cwV9 1 ht wi_786 wi_785 wi_39 wi_60 hlink (by decide +kernel) rfl rfl hR
def rm_X7_termsOf : Room := { frames := 0, cells := 0, slots := 0, locals := 0 }
def f_X7_termsOf_39 (zM : MdS) (kb_8 : Int32 → Int32 → Int32 → Option (Int32)) (x1 : Int32) (x3 : Int32) (v0 : Int32) : Option (Int32) := kb_8 x1 v0 (x3 + 1)
set_option maxHeartbeats 4000000 in
set_option maxRecDepth 100000 in
theorem b_X7_termsOf_39 {p : Program} {l : Launch} {e : Env} {s : State} {m : MethodId} {args : Array Value} {below : List Frame} {meth : Method} {c : Code} {G : va_G} {cA : Nat → ClassId} (qM : Nat → Nat) (zM : MdS) (C0 : Amb p s m args meth c cX7_termsOf RX7 4 (some .int) G cA (fun _ : Nat => False) ((wMd cA qM zM))) {res : Int32} (kb_8 : Int32 → Int32 → Int32 → Option (Int32)) (hkb_8 : ∀ (x1 : Int32) (x2 : Int32) (x3 : Int32) (ls : Array Slot), lv_has ls 4 [(0, .ref (qM 0)), (1, .int x1), (2, .int x2), (3, .int x3)] → kb_8 x1 x2 x3 = some res → W p l e rm_X7_termsOf s m args below meth c s.heap [] 0 0 (MQ below (vp_Si (fun x => x = res)) args s 0 0 (fun _ : Nat => False)) (F0 m 8 ls [])) : ∀ (x1 : Int32) (x3 : Int32) (v0 : Int32) (ls : Array Slot), lv_has ls 4 [(0, .ref (qM 0)), (1, .int x1), (3, .int x3)] → f_X7_termsOf_39 zM kb_8 x1 x3 v0 = some res → W p l e rm_X7_termsOf s m args below meth c s.heap [] 0 0 (MQ below (vp_Si (fun x => x = res)) args s 0 0 (fun _ : Nat => False)) (F0 m 39 ls [.int v0]) := by
  obtain ⟨hx, hb, hr, hml, hown, hts, hlocks, hK, hR, hRA⟩ := id C0
  intro x1 x3 v0 ls hl hf
  unfold f_X7_termsOf_39 at hf
  refine lv_istore_n (lv' := [(2, .int v0), (0, .ref (qM 0)), (1, .int x1), (3, .int x3)]) hx hb dX7_termsOf_39 rfl hl (by decide) rfl (fun ls hl => ?_)
  refine lv_iinc (v := (x3 + 1)) (lv' := [(3, .int (x3 + 1)), (2, .int v0), (0, .ref (qM 0)), (1, .int x1)]) hx hb dX7_termsOf_40 hl (k := 3) rfl rfl (by decide) rfl (fun ls hl => ?_)
  refine lv_goto (tgt := 8) hx hb dX7_termsOf_43 (by decide) ?_
  exact hkb_8 x1 v0 (x3 + 1) ls (lv_sub hl [2, 3, 1, 0] rfl) hf
def f_X7_termsOf_8 (zM : MdS) : Nat → Int32 → Int32 → Int32 → Option (Int32)
  | 0, _, _, _ => none
  | fu + 1, x1, x2, x3 => if (((1150 : Int32) * x1) + (1150 : Int32)) ≤ x3 then some x2 else if inb x3 11500 = true then if (gM_up zM x3.toNatClampNeg) = (0 : Int64) then f_X7_termsOf_39 zM (fun x1_ x2_ x3_ => f_X7_termsOf_8 zM fu x1_ x2_ x3_) x1 x3 x2 else f_X7_termsOf_39 zM (fun x1_ x2_ x3_ => f_X7_termsOf_8 zM fu x1_ x2_ x3_) x1 x3 (x2 + (1 : Int32)) else none
set_option maxHeartbeats 4000000 in
set_option maxRecDepth 100000 in
theorem b_X7_termsOf_8 {p : Program} {l : Launch} {e : Env} {s : State} {m : MethodId} {args : Array Value} {below : List Frame} {meth : Method} {c : Code} {G : va_G} {cA : Nat → ClassId} (qM : Nat → Nat) (zM : MdS) (C0 : Amb p s m args meth c cX7_termsOf RX7 4 (some .int) G cA (fun _ : Nat => False) ((wMd cA qM zM))) {res : Int32} : ∀ (fu : Nat) (x1 : Int32) (x2 : Int32) (x3 : Int32) (ls : Array Slot), lv_has ls 4 [(0, .ref (qM 0)), (1, .int x1), (2, .int x2), (3, .int x3)] → f_X7_termsOf_8 zM fu x1 x2 x3 = some res → W p l e rm_X7_termsOf s m args below meth c s.heap [] 0 0 (MQ below (vp_Si (fun x => x = res)) args s 0 0 (fun _ : Nat => False)) (F0 m 8 ls []) := by
  obtain ⟨hx, hb, hr, hml, hown, hts, hlocks, hK, hR, hRA⟩ := id C0
  intro fu
  induction fu with
  | zero =>
    intro x1 x2 x3 ls hl hf
    rw [f_X7_termsOf_8] at hf
    cases hf
  | succ fu ih =>
    intro x1 x2 x3 ls hl hf
    rw [f_X7_termsOf_8] at hf
    refine lv_iload_n hx hb dX7_termsOf_8 rfl (lv_at hl 3 rfl) ?_
    refine lv_sipush (v := (1150 : Int32)) hx hb dX7_termsOf_9 (by decide) ?_
    refine lv_iload_n hx hb dX7_termsOf_12 rfl (lv_at hl 1 rfl) ?_
    refine lv_imul hx hb dX7_termsOf_13 ?_
    refine lv_sipush (v := (1150 : Int32)) hx hb dX7_termsOf_14 (by decide) ?_
    refine lv_iadd hx hb dX7_termsOf_17 ?_
    refine lv_icmp_ge (tgt := 46) hx hb dX7_termsOf_18 (by decide) (fun c_1 => ?_) (fun c_1 => ?_)
    · rw [if_pos (c_1)] at hf
      refine lv_iload_n hx hb dX7_termsOf_46 rfl (lv_at hl 2 rfl) ?_
      cases hf
      exact W.iret hx hb hr (fun t ht hW => ⟨_, rfl, rfl, ht⟩) (fun q hq => by cases hq) dX7_termsOf_47 hlocks
    · rw [if_neg (c_1)] at hf
      refine lv_aload_n hx hb dX7_termsOf_21 rfl (lv_at hl 0 rfl) ?_
      refine va_get (D := G) (ci := 5) (v := .ref (qM 3)) (C := RX7) (T := TX7) (N := 13) hx hb hts fin_X7 hown hK.1 hR 0 rfl rfl 6 (by decide) (hts _ wi_677) (fun _ h9 => h9) rfl dX7_termsOf_22 ?_
      refine lv_iload_n hx hb dX7_termsOf_25 rfl (lv_at hl 3 rfl) ?_
      obtain ⟨hi_2, hf⟩ := oif hf
      refine va_lald hx hb hK.1 hR 3 1 rfl rfl (inb_in hi_2) dX7_termsOf_26 ?_
      refine lv_lconst (v := (0 : Int64)) hx hb dX7_termsOf_27 (by decide) ?_
      refine W.lcmp hx hb dX7_termsOf_28 ?_
      refine lv_if_eq (tgt := 38) hx hb dX7_termsOf_29 (by decide) (fun c_3 => ?_) (fun c_3 => ?_)
      · rw [if_pos ((lg_cmp_eq _ _).mp c_3)] at hf
        refine lv_iload_n hx hb dX7_termsOf_38 rfl (lv_at hl 2 rfl) ?_
        exact b_X7_termsOf_39 qM  zM C0 (fun x1_ x2_ x3_ => f_X7_termsOf_8 zM fu x1_ x2_ x3_) ih x1 x3 x2 ls (lv_sub hl [0, 1, 3] rfl) hf
      · rw [if_neg (fun h => c_3 ((lg_cmp_eq _ _).mpr h))] at hf
        refine lv_iload_n hx hb dX7_termsOf_32 rfl (lv_at hl 2 rfl) ?_
        refine lv_iconst (v := 1) hx hb dX7_termsOf_33 (by decide) ?_
        refine lv_iadd hx hb dX7_termsOf_34 ?_
        refine lv_goto (tgt := 39) hx hb dX7_termsOf_35 (by decide) ?_
        exact b_X7_termsOf_39 qM  zM C0 (fun x1_ x2_ x3_ => f_X7_termsOf_8 zM fu x1_ x2_ x3_) ih x1 x3 (x2 + (1 : Int32)) ls (lv_sub hl [0, 1, 3] rfl) hf
def f_X7_termsOf (zM : MdS) (a1 : Int32) : Option (Int32) := (some (((1150 : Int32) * a1))).bind fun y_1 => f_X7_termsOf_8 zM fuel a1 (0 : Int32) y_1
set_option maxHeartbeats 4000000 in
set_option maxRecDepth 100000 in
theorem b_X7_termsOf_0 {p : Program} {l : Launch} {e : Env} {s : State} {m : MethodId} {args : Array Value} {below : List Frame} {meth : Method} {c : Code} {G : va_G} {cA : Nat → ClassId} (qM : Nat → Nat) (zM : MdS) (C0 : Amb p s m args meth c cX7_termsOf RX7 4 (some .int) G cA (fun _ : Nat => False) ((wMd cA qM zM))) {res : Int32} : ∀ (a1 : Int32) (ls : Array Slot), lv_has ls 4 [(0, .ref (qM 0)), (1, .int a1)] → f_X7_termsOf zM a1 = some res → W p l e rm_X7_termsOf s m args below meth c s.heap [] 0 0 (MQ below (vp_Si (fun x => x = res)) args s 0 0 (fun _ : Nat => False)) (F0 m 0 ls []) := by
  obtain ⟨hx, hb, hr, hml, hown, hts, hlocks, hK, hR, hRA⟩ := id C0
  intro a1 ls hl hf
  unfold f_X7_termsOf at hf
  refine lv_iconst (v := 0) hx hb dX7_termsOf_0 (by decide) ?_
  refine lv_istore_n (lv' := [(2, .int (0 : Int32)), (0, .ref (qM 0)), (1, .int a1)]) hx hb dX7_termsOf_1 rfl hl (by decide) rfl (fun ls hl => ?_)
  refine lv_sipush (v := (1150 : Int32)) hx hb dX7_termsOf_2 (by decide) ?_
  refine lv_iload_n hx hb dX7_termsOf_5 rfl (lv_at hl 2 rfl) ?_
  refine lv_imul hx hb dX7_termsOf_6 ?_
  obtain ⟨y_1, hq, hf⟩ := obd hf
  have hy_1 : ((1150 : Int32) * a1) = y_1 := Option.some.inj hq
  rw [hy_1]
  refine lv_istore_n (lv' := [(3, .int y_1), (2, .int (0 : Int32)), (0, .ref (qM 0)), (1, .int a1)]) hx hb dX7_termsOf_7 rfl hl (by decide) rfl (fun ls hl => ?_)
  exact b_X7_termsOf_8 qM  zM C0  fuel a1 (0 : Int32) y_1 ls (lv_sub hl [2, 3, 1, 0] rfl) hf

set_option maxRecDepth 100000 in
theorem m_X7_termsOf (l : Launch) (G : va_G) (cA : Nat → ClassId) (qM : Nat → Nat) (zM : MdS) (a1 : Int32) (res : Int32) (hf : f_X7_termsOf zM a1 = some res) : MRi l yX7_termsOf (.code yX7_termsOf cX7_termsOf 4 (some .int) :: wd) rm_X7_termsOf G cA [.ref (qM 0), .int a1] ((wMd cA qM zM)) res := by
  refine Met.ofW (cc := cX7_termsOf) (maxL := 4) (ret := (some .int)) (by decide) rfl ?_
  intro p e s m args below meth c s₁ B hml hv
  obtain ⟨rfl, hK, hR⟩ := hv
  have C0 : Amb p s m ([.ref (qM 0), .int a1] : List Value).toArray meth c cX7_termsOf RX7 4 (some .int) G cA (fun _ : Nat => False) ((wMd cA qM zM)) := ⟨B.exec, B.bytes, B.returns, hml, findClass_of_methodNamed B.named, fun w h => atoms_spec (ws := (.code yX7_termsOf cX7_termsOf 4 (some .int) :: wd)) B.pre w (List.mem_cons_of_mem _ h), B.notSynchronized, hK, hR, fun _ _ _ h => h⟩
  have hl := lv_entry ([.ref (qM 0), .int a1]) (n := 4) (Nat.le_of_ble_eq_true rfl)
  rw [lg_entry_eq]
  generalize (lg_sl ([.ref (qM 0), .int a1]) ++ List.replicate (4 - (lg_sl ([.ref (qM 0), .int a1])).length) Slot.unset).toArray = ls at hl ⊢
  have hl : lv_has ls 4 [(0, .ref (qM 0)), (1, .int a1)] := hl
  exact b_X7_termsOf_0 qM  zM C0 a1 ls hl hf
theorem cw_X7_termsOf {R : Room} {s : State} {args : Array Value} {own : String} {index : Nat} (ht : ∀ w ∈ wd, w.before args s = true) (hlink : Cond.methodLink own index yX7_termsOf ∈ wd) (hR : rm_X7_termsOf.frames + 1 ≤ R.frames ∧ 8 + (4 + 11) + rm_X7_termsOf.locals ≤ R.locals) : CallW R s args own RX7 index yX7_termsOf cX7_termsOf 4 (some .int) (.code yX7_termsOf cX7_termsOf 4 (some .int) :: wd) rm_X7_termsOf 0 0 1 := cwV9 1 ht wi_801 wi_800 wi_42 wi_60 hlink (by decide +kernel) rfl rfl hR
def rm_X7_fits : Room := { frames := 1, cells := 0, slots := 0, locals := 23 }
def f_X7_fits_59 (zM : MdS) (kb_29 : Int32 → Int32 → Int32 → Option (Int32)) (x1 : Int32) (x3 : Int32) (v0 : Int32) : Option (Int32) := kb_29 x1 v0 (x3 + 1)
set_option maxHeartbeats 4000000 in
set_option maxRecDepth 100000 in
theorem b_X7_fits_59 {p : Program} {l : Launch} {e : Env} {s : State} {m : MethodId} {args : Array Value} {below : List Frame} {meth : Method} {c : Code} {G : va_G} {cA : Nat → ClassId} (qM : Nat → Nat) (zM : MdS) (C0 : Amb p s m args meth c cX7_fits RX7 4 (some .boolean) G cA (fun _ : Nat => False) ((wMd cA qM zM))) {res : Int32} (kb_29 : Int32 → Int32 → Int32 → Option (Int32)) (hkb_29 : ∀ (x1 : Int32) (x2 : Int32) (x3 : Int32) (ls : Array Slot), lv_has ls 4 [(0, .ref (qM 0)), (1, .int x1), (2, .int x2), (3, .int x3)] → kb_29 x1 x2 x3 = some res → W p l e rm_X7_fits s m args below meth c s.heap [] 0 0 (MQ below (vp_Si (fun x => x = res)) args s 0 0 (fun _ : Nat => False)) (F0 m 29 ls [])) : ∀ (x1 : Int32) (x3 : Int32) (v0 : Int32) (ls : Array Slot), lv_has ls 4 [(0, .ref (qM 0)), (1, .int x1), (3, .int x3)] → f_X7_fits_59 zM kb_29 x1 x3 v0 = some res → W p l e rm_X7_fits s m args below meth c s.heap [] 0 0 (MQ below (vp_Si (fun x => x = res)) args s 0 0 (fun _ : Nat => False)) (F0 m 59 ls [.int v0]) := by
  obtain ⟨hx, hb, hr, hml, hown, hts, hlocks, hK, hR, hRA⟩ := id C0
  intro x1 x3 v0 ls hl hf
  unfold f_X7_fits_59 at hf
  refine lv_istore_n (lv' := [(2, .int v0), (0, .ref (qM 0)), (1, .int x1), (3, .int x3)]) hx hb dX7_fits_59 rfl hl (by decide) rfl (fun ls hl => ?_)
  refine lv_iinc (v := (x3 + 1)) (lv' := [(3, .int (x3 + 1)), (2, .int v0), (0, .ref (qM 0)), (1, .int x1)]) hx hb dX7_fits_60 hl (k := 3) rfl rfl (by decide) rfl (fun ls hl => ?_)
  refine lv_goto (tgt := 29) hx hb dX7_fits_63 (by decide) ?_
  exact hkb_29 x1 v0 (x3 + 1) ls (lv_sub hl [2, 3, 1, 0] rfl) hf
def f_X7_fits_58 (zM : MdS) (kb_29 : Int32 → Int32 → Int32 → Option (Int32)) (x1 : Int32) (x3 : Int32) : Option (Int32) := f_X7_fits_59 zM kb_29 x1 x3 (0 : Int32)
set_option maxHeartbeats 4000000 in
set_option maxRecDepth 100000 in
theorem b_X7_fits_58 {p : Program} {l : Launch} {e : Env} {s : State} {m : MethodId} {args : Array Value} {below : List Frame} {meth : Method} {c : Code} {G : va_G} {cA : Nat → ClassId} (qM : Nat → Nat) (zM : MdS) (C0 : Amb p s m args meth c cX7_fits RX7 4 (some .boolean) G cA (fun _ : Nat => False) ((wMd cA qM zM))) {res : Int32} (kb_29 : Int32 → Int32 → Int32 → Option (Int32)) (hkb_29 : ∀ (x1 : Int32) (x2 : Int32) (x3 : Int32) (ls : Array Slot), lv_has ls 4 [(0, .ref (qM 0)), (1, .int x1), (2, .int x2), (3, .int x3)] → kb_29 x1 x2 x3 = some res → W p l e rm_X7_fits s m args below meth c s.heap [] 0 0 (MQ below (vp_Si (fun x => x = res)) args s 0 0 (fun _ : Nat => False)) (F0 m 29 ls [])) : ∀ (x1 : Int32) (x3 : Int32) (ls : Array Slot), lv_has ls 4 [(0, .ref (qM 0)), (1, .int x1), (3, .int x3)] → f_X7_fits_58 zM kb_29 x1 x3 = some res → W p l e rm_X7_fits s m args below meth c s.heap [] 0 0 (MQ below (vp_Si (fun x => x = res)) args s 0 0 (fun _ : Nat => False)) (F0 m 58 ls []) := by
  obtain ⟨hx, hb, hr, hml, hown, hts, hlocks, hK, hR, hRA⟩ := id C0
  intro x1 x3 ls hl hf
  unfold f_X7_fits_58 at hf
  refine lv_iconst (v := 0) hx hb dX7_fits_58 (by decide) ?_
  exact b_X7_fits_59 qM  zM C0 kb_29 hkb_29 x1 x3 (0 : Int32) ls (lv_sub hl [0, 1, 2] rfl) hf
def f_X7_fits_29 (zM : MdS) : Nat → Int32 → Int32 → Int32 → Option (Int32)
  | 0, _, _, _ => none
  | fu + 1, x1, x2, x3 => if (((1150 : Int32) * x1) + (1150 : Int32)) ≤ x3 then if zb x2 = true then some x2 else none else if x2 = 0 then f_X7_fits_58 zM (fun x1_ x2_ x3_ => f_X7_fits_29 zM fu x1_ x2_ x3_) x1 x3 else (f_X7_isOut zM x3).bind fun r_4 => if ¬ r_4 = 0 then f_X7_fits_58 zM (fun x1_ x2_ x3_ => f_X7_fits_29 zM fu x1_ x2_ x3_) x1 x3 else f_X7_fits_59 zM (fun x1_ x2_ x3_ => f_X7_fits_29 zM fu x1_ x2_ x3_) x1 x3 (1 : Int32)
set_option maxHeartbeats 4000000 in
set_option maxRecDepth 100000 in
theorem b_X7_fits_29 {p : Program} {l : Launch} {e : Env} {s : State} {m : MethodId} {args : Array Value} {below : List Frame} {meth : Method} {c : Code} {G : va_G} {cA : Nat → ClassId} (qM : Nat → Nat) (zM : MdS) (C0 : Amb p s m args meth c cX7_fits RX7 4 (some .boolean) G cA (fun _ : Nat => False) ((wMd cA qM zM))) {res : Int32} : ∀ (fu : Nat) (x1 : Int32) (x2 : Int32) (x3 : Int32) (ls : Array Slot), lv_has ls 4 [(0, .ref (qM 0)), (1, .int x1), (2, .int x2), (3, .int x3)] → f_X7_fits_29 zM fu x1 x2 x3 = some res → W p l e rm_X7_fits s m args below meth c s.heap [] 0 0 (MQ below (vp_Si (fun x => x = res)) args s 0 0 (fun _ : Nat => False)) (F0 m 29 ls []) := by
  obtain ⟨hx, hb, hr, hml, hown, hts, hlocks, hK, hR, hRA⟩ := id C0
  intro fu
  induction fu with
  | zero =>
    intro x1 x2 x3 ls hl hf
    rw [f_X7_fits_29] at hf
    cases hf
  | succ fu ih =>
    intro x1 x2 x3 ls hl hf
    rw [f_X7_fits_29] at hf
    refine lv_iload_n hx hb dX7_fits_29 rfl (lv_at hl 3 rfl) ?_
    refine lv_sipush (v := (1150 : Int32)) hx hb dX7_fits_30 (by decide) ?_
    refine lv_iload_n hx hb dX7_fits_33 rfl (lv_at hl 1 rfl) ?_
    refine lv_imul hx hb dX7_fits_34 ?_
    refine lv_sipush (v := (1150 : Int32)) hx hb dX7_fits_35 (by decide) ?_
    refine lv_iadd hx hb dX7_fits_38 ?_
    refine lv_icmp_ge (tgt := 66) hx hb dX7_fits_39 (by decide) (fun c_1 => ?_) (fun c_1 => ?_)
    · rw [if_pos (c_1)] at hf
      refine lv_iload_n hx hb dX7_fits_66 rfl (lv_at hl 2 rfl) ?_
      obtain ⟨hz_2, hf⟩ := oif hf
      cases hf
      exact W.zret hx hb hr (zb_n hz_2) (fun t ht hW => ⟨_, rfl, rfl, ht⟩) (fun q hq => by cases hq) dX7_fits_67 hlocks
    · rw [if_neg (c_1)] at hf
      refine lv_iload_n hx hb dX7_fits_42 rfl (lv_at hl 2 rfl) ?_
      refine lv_if_eq (tgt := 58) hx hb dX7_fits_43 (by decide) (fun c_3 => ?_) (fun c_3 => ?_)
      · rw [if_pos (c_3)] at hf
        exact b_X7_fits_58 qM  zM C0 (fun x1_ x2_ x3_ => f_X7_fits_29 zM fu x1_ x2_ x3_) ih x1 x3 ls (lv_sub hl [0, 1, 3] rfl) hf
      · rw [if_neg (c_3)] at hf
        refine lv_aload_n hx hb dX7_fits_46 rfl (lv_at hl 0 rfl) ?_
        refine lv_iload_n hx hb dX7_fits_47 rfl (lv_at hl 3 rfl) ?_
        obtain ⟨r_4, hr_4, hf⟩ := obd hf
        refine cRiV (As := [.int x3]) (rest := []) ⟨hx, hb, hml, hown, hts⟩ (m_X7_isOut l G cA qM zM x3 r_4 hr_4) (cw_X7_isOut hts wi_783 ⟨Nat.le_of_ble_eq_true rfl, Nat.le_of_ble_eq_true rfl⟩) hK (pk hR [0, 1, 2, 3, 4] rfl) (va_recv hK.1 hR (ci := 5) (q0 := 0) rfl rfl) rfl hl.1 rfl (Nat.le_of_ble_eq_true rfl) dX7_fits_48 ⟨Nat.zero_le _, Nat.zero_le _⟩ ?_
        refine lv_if_ne (tgt := 58) hx hb dX7_fits_51 (by decide) (fun c_5 => ?_) (fun c_5 => ?_)
        · rw [if_pos (c_5)] at hf
          exact b_X7_fits_58 qM  zM C0 (fun x1_ x2_ x3_ => f_X7_fits_29 zM fu x1_ x2_ x3_) ih x1 x3 ls (lv_sub hl [0, 1, 3] rfl) hf
        · rw [if_neg (not_not_intro c_5)] at hf
          refine lv_iconst (v := 1) hx hb dX7_fits_54 (by decide) ?_
          refine lv_goto (tgt := 59) hx hb dX7_fits_55 (by decide) ?_
          exact b_X7_fits_59 qM  zM C0 (fun x1_ x2_ x3_ => f_X7_fits_29 zM fu x1_ x2_ x3_) ih x1 x3 (1 : Int32) ls (lv_sub hl [0, 1, 3] rfl) hf
def f_X7_fits_22 (zM : MdS) (x1 : Int32) (v0 : Int32) : Option (Int32) := (some (((1150 : Int32) * x1))).bind fun y_1 => f_X7_fits_29 zM fuel x1 v0 y_1
set_option maxHeartbeats 4000000 in
set_option maxRecDepth 100000 in
theorem b_X7_fits_22 {p : Program} {l : Launch} {e : Env} {s : State} {m : MethodId} {args : Array Value} {below : List Frame} {meth : Method} {c : Code} {G : va_G} {cA : Nat → ClassId} (qM : Nat → Nat) (zM : MdS) (C0 : Amb p s m args meth c cX7_fits RX7 4 (some .boolean) G cA (fun _ : Nat => False) ((wMd cA qM zM))) {res : Int32} : ∀ (x1 : Int32) (v0 : Int32) (ls : Array Slot), lv_has ls 4 [(0, .ref (qM 0)), (1, .int x1)] → f_X7_fits_22 zM x1 v0 = some res → W p l e rm_X7_fits s m args below meth c s.heap [] 0 0 (MQ below (vp_Si (fun x => x = res)) args s 0 0 (fun _ : Nat => False)) (F0 m 22 ls [.int v0]) := by
  obtain ⟨hx, hb, hr, hml, hown, hts, hlocks, hK, hR, hRA⟩ := id C0
  intro x1 v0 ls hl hf
  unfold f_X7_fits_22 at hf
  refine lv_istore_n (lv' := [(2, .int v0), (0, .ref (qM 0)), (1, .int x1)]) hx hb dX7_fits_22 rfl hl (by decide) rfl (fun ls hl => ?_)
  refine lv_sipush (v := (1150 : Int32)) hx hb dX7_fits_23 (by decide) ?_
  refine lv_iload_n hx hb dX7_fits_26 rfl (lv_at hl 2 rfl) ?_
  refine lv_imul hx hb dX7_fits_27 ?_
  obtain ⟨y_1, hq, hf⟩ := obd hf
  have hy_1 : ((1150 : Int32) * x1) = y_1 := Option.some.inj hq
  rw [hy_1]
  refine lv_istore_n (lv' := [(3, .int y_1), (2, .int v0), (0, .ref (qM 0)), (1, .int x1)]) hx hb dX7_fits_28 rfl hl (by decide) rfl (fun ls hl => ?_)
  exact b_X7_fits_29 qM  zM C0  fuel x1 v0 y_1 ls (lv_sub hl [2, 3, 1, 0] rfl) hf
def f_X7_fits_21 (zM : MdS) (x1 : Int32) : Option (Int32) := f_X7_fits_22 zM x1 (0 : Int32)
set_option maxHeartbeats 4000000 in
set_option maxRecDepth 100000 in
theorem b_X7_fits_21 {p : Program} {l : Launch} {e : Env} {s : State} {m : MethodId} {args : Array Value} {below : List Frame} {meth : Method} {c : Code} {G : va_G} {cA : Nat → ClassId} (qM : Nat → Nat) (zM : MdS) (C0 : Amb p s m args meth c cX7_fits RX7 4 (some .boolean) G cA (fun _ : Nat => False) ((wMd cA qM zM))) {res : Int32} : ∀ (x1 : Int32) (ls : Array Slot), lv_has ls 4 [(0, .ref (qM 0)), (1, .int x1)] → f_X7_fits_21 zM x1 = some res → W p l e rm_X7_fits s m args below meth c s.heap [] 0 0 (MQ below (vp_Si (fun x => x = res)) args s 0 0 (fun _ : Nat => False)) (F0 m 21 ls []) := by
  obtain ⟨hx, hb, hr, hml, hown, hts, hlocks, hK, hR, hRA⟩ := id C0
  intro x1 ls hl hf
  unfold f_X7_fits_21 at hf
  refine lv_iconst (v := 0) hx hb dX7_fits_21 (by decide) ?_
  exact b_X7_fits_22 qM  zM C0  x1 (0 : Int32) ls (lv_sub hl [0, 1] rfl) hf
def f_X7_fits (zM : MdS) (a1 : Int32) : Option (Int32) := if ¬ (gM_isFull zM) = 0 then f_X7_fits_21 zM a1 else (f_X7_termsOf zM a1).bind fun r_2 => if (40 : Int32) < r_2 then f_X7_fits_21 zM a1 else f_X7_fits_22 zM a1 (1 : Int32)
set_option maxHeartbeats 4000000 in
set_option maxRecDepth 100000 in
theorem b_X7_fits_0 {p : Program} {l : Launch} {e : Env} {s : State} {m : MethodId} {args : Array Value} {below : List Frame} {meth : Method} {c : Code} {G : va_G} {cA : Nat → ClassId} (qM : Nat → Nat) (zM : MdS) (C0 : Amb p s m args meth c cX7_fits RX7 4 (some .boolean) G cA (fun _ : Nat => False) ((wMd cA qM zM))) {res : Int32} : ∀ (a1 : Int32) (ls : Array Slot), lv_has ls 4 [(0, .ref (qM 0)), (1, .int a1)] → f_X7_fits zM a1 = some res → W p l e rm_X7_fits s m args below meth c s.heap [] 0 0 (MQ below (vp_Si (fun x => x = res)) args s 0 0 (fun _ : Nat => False)) (F0 m 0 ls []) := by
  obtain ⟨hx, hb, hr, hml, hown, hts, hlocks, hK, hR, hRA⟩ := id C0
  intro a1 ls hl hf
  unfold f_X7_fits at hf
  refine lv_aload_n hx hb dX7_fits_0 rfl (lv_at hl 0 rfl) ?_
  refine va_get (D := G) (ci := 5) (v := .int (gM_isFull zM)) (C := RX7) (T := TX7) (N := 13) hx hb hts fin_X7 hown hK.1 hR 0 rfl rfl 8 (by decide) (hts _ wi_679) (fun _ h9 => h9) rfl dX7_fits_1 ?_
  refine lv_if_ne (tgt := 21) hx hb dX7_fits_4 (by decide) (fun c_1 => ?_) (fun c_1 => ?_)
  · rw [if_pos (c_1)] at hf
    exact b_X7_fits_21 qM  zM C0  a1 ls (lv_sub hl [0, 1] rfl) hf
  · rw [if_neg (not_not_intro c_1)] at hf
    refine lv_aload_n hx hb dX7_fits_7 rfl (lv_at hl 0 rfl) ?_
    refine lv_iload_n hx hb dX7_fits_8 rfl (lv_at hl 1 rfl) ?_
    obtain ⟨r_2, hr_2, hf⟩ := obd hf
    refine cRiV (As := [.int a1]) (rest := []) ⟨hx, hb, hml, hown, hts⟩ (m_X7_termsOf l G cA qM zM a1 r_2 hr_2) (cw_X7_termsOf hts wi_798 ⟨Nat.le_of_ble_eq_true rfl, Nat.le_of_ble_eq_true rfl⟩) hK (pk hR [0, 1, 2, 3, 4] rfl) (va_recv hK.1 hR (ci := 5) (q0 := 0) rfl rfl) rfl hl.1 rfl (Nat.le_of_ble_eq_true rfl) dX7_fits_9 ⟨Nat.zero_le _, Nat.zero_le _⟩ ?_
    refine lv_bipush (v := (40 : Int32)) hx hb dX7_fits_12 (by decide) ?_
    refine lv_icmp_gt (tgt := 21) hx hb dX7_fits_14 (by decide) (fun c_3 => ?_) (fun c_3 => ?_)
    · rw [if_pos (c_3)] at hf
      exact b_X7_fits_21 qM  zM C0  a1 ls (lv_sub hl [0, 1] rfl) hf
    · rw [if_neg (c_3)] at hf
      refine lv_iconst (v := 1) hx hb dX7_fits_17 (by decide) ?_
      refine lv_goto (tgt := 22) hx hb dX7_fits_18 (by decide) ?_
      exact b_X7_fits_22 qM  zM C0  a1 (1 : Int32) ls (lv_sub hl [0, 1] rfl) hf

set_option maxRecDepth 100000 in
theorem m_X7_fits (l : Launch) (G : va_G) (cA : Nat → ClassId) (qM : Nat → Nat) (zM : MdS) (a1 : Int32) (res : Int32) (hf : f_X7_fits zM a1 = some res) : MRi l yX7_fits (.code yX7_fits cX7_fits 4 (some .boolean) :: wd) rm_X7_fits G cA [.ref (qM 0), .int a1] ((wMd cA qM zM)) res := by
  refine Met.ofW (cc := cX7_fits) (maxL := 4) (ret := (some .boolean)) (by decide) rfl ?_
  intro p e s m args below meth c s₁ B hml hv
  obtain ⟨rfl, hK, hR⟩ := hv
  have C0 : Amb p s m ([.ref (qM 0), .int a1] : List Value).toArray meth c cX7_fits RX7 4 (some .boolean) G cA (fun _ : Nat => False) ((wMd cA qM zM)) := ⟨B.exec, B.bytes, B.returns, hml, findClass_of_methodNamed B.named, fun w h => atoms_spec (ws := (.code yX7_fits cX7_fits 4 (some .boolean) :: wd)) B.pre w (List.mem_cons_of_mem _ h), B.notSynchronized, hK, hR, fun _ _ _ h => h⟩
  have hl := lv_entry ([.ref (qM 0), .int a1]) (n := 4) (Nat.le_of_ble_eq_true rfl)
  rw [lg_entry_eq]
  generalize (lg_sl ([.ref (qM 0), .int a1]) ++ List.replicate (4 - (lg_sl ([.ref (qM 0), .int a1])).length) Slot.unset).toArray = ls at hl ⊢
  have hl : lv_has ls 4 [(0, .ref (qM 0)), (1, .int a1)] := hl
  exact b_X7_fits_0 qM  zM C0 a1 ls hl hf
theorem cw_X7_fits {R : Room} {s : State} {args : Array Value} {own : String} {index : Nat} (ht : ∀ w ∈ wd, w.before args s = true) (hlink : Cond.methodLink own index yX7_fits ∈ wd) (hR : rm_X7_fits.frames + 1 ≤ R.frames ∧ 8 + (4 + 11) + rm_X7_fits.locals ≤ R.locals) : CallW R s args own RX7 index yX7_fits cX7_fits 4 (some .boolean) (.code yX7_fits cX7_fits 4 (some .boolean) :: wd) rm_X7_fits 0 0 1 := cwV9 1 ht wi_797 wi_796 wi_41 wi_60 hlink (by decide +kernel) rfl rfl hR
def rm_X7_isSmall : Room := { frames := 1, cells := 0, slots := 0, locals := 20 }
def f_X7_isSmall_138 (zM : MdS) (kb_4 : Int32 → Int32 → Int32 → Option (Int32)) (kb_14 : Int32 → Int32 → Int32 → Int32 → Option (Int32)) (x1 : Int32) (x2 : Int32) (x3 : Int32) (x4 : Int32) : Option (Int32) := kb_14 x1 x2 x3 (x4 + 1)
set_option maxHeartbeats 4000000 in
set_option maxRecDepth 100000 in
theorem b_X7_isSmall_138 {p : Program} {l : Launch} {e : Env} {s : State} {m : MethodId} {args : Array Value} {below : List Frame} {meth : Method} {c : Code} {G : va_G} {cA : Nat → ClassId} (qM : Nat → Nat) (zM : MdS) (C0 : Amb p s m args meth c cX7_isSmall RX7 7 (some .boolean) G cA (fun _ : Nat => False) ((wMd cA qM zM))) {res : Int32} (kb_4 : Int32 → Int32 → Int32 → Option (Int32)) (hkb_4 : ∀ (x1 : Int32) (x2 : Int32) (x3 : Int32) (ls : Array Slot), lv_has ls 7 [(0, .ref (qM 0)), (1, .int x1), (2, .int x2), (3, .int x3)] → kb_4 x1 x2 x3 = some res → W p l e rm_X7_isSmall s m args below meth c s.heap [] 0 0 (MQ below (vp_Si (fun x => x = res)) args s 0 0 (fun _ : Nat => False)) (F0 m 4 ls [])) (kb_14 : Int32 → Int32 → Int32 → Int32 → Option (Int32)) (hkb_14 : ∀ (x1 : Int32) (x2 : Int32) (x3 : Int32) (x4 : Int32) (ls : Array Slot), lv_has ls 7 [(0, .ref (qM 0)), (1, .int x1), (2, .int x2), (3, .int x3), (4, .int x4)] → kb_14 x1 x2 x3 x4 = some res → W p l e rm_X7_isSmall s m args below meth c s.heap [] 0 0 (MQ below (vp_Si (fun x => x = res)) args s 0 0 (fun _ : Nat => False)) (F0 m 14 ls [])) : ∀ (x1 : Int32) (x2 : Int32) (x3 : Int32) (x4 : Int32) (ls : Array Slot), lv_has ls 7 [(0, .ref (qM 0)), (1, .int x1), (2, .int x2), (3, .int x3), (4, .int x4)] → f_X7_isSmall_138 zM kb_4 kb_14 x1 x2 x3 x4 = some res → W p l e rm_X7_isSmall s m args below meth c s.heap [] 0 0 (MQ below (vp_Si (fun x => x = res)) args s 0 0 (fun _ : Nat => False)) (F0 m 138 ls []) := by
  obtain ⟨hx, hb, hr, hml, hown, hts, hlocks, hK, hR, hRA⟩ := id C0
  intro x1 x2 x3 x4 ls hl hf
  unfold f_X7_isSmall_138 at hf
  refine lv_iinc (v := (x4 + 1)) (lv' := [(4, .int (x4 + 1)), (0, .ref (qM 0)), (1, .int x1), (2, .int x2), (3, .int x3)]) hx hb dX7_isSmall_138 hl (k := 4) rfl rfl (by decide) rfl (fun ls hl => ?_)
  refine lv_goto (tgt := 14) hx hb dX7_isSmall_141 (by decide) ?_
  exact hkb_14 x1 x2 x3 (x4 + 1) ls (lv_sub hl [1, 2, 3, 4, 0] rfl) hf
def f_X7_isSmall_137 (zM : MdS) (kb_4 : Int32 → Int32 → Int32 → Option (Int32)) (kb_14 : Int32 → Int32 → Int32 → Int32 → Option (Int32)) (x1 : Int32) (x3 : Int32) (x4 : Int32) (v0 : Int32) : Option (Int32) := f_X7_isSmall_138 zM kb_4 kb_14 x1 v0 x3 x4
set_option maxHeartbeats 4000000 in
set_option maxRecDepth 100000 in
theorem b_X7_isSmall_137 {p : Program} {l : Launch} {e : Env} {s : State} {m : MethodId} {args : Array Value} {below : List Frame} {meth : Method} {c : Code} {G : va_G} {cA : Nat → ClassId} (qM : Nat → Nat) (zM : MdS) (C0 : Amb p s m args meth c cX7_isSmall RX7 7 (some .boolean) G cA (fun _ : Nat => False) ((wMd cA qM zM))) {res : Int32} (kb_4 : Int32 → Int32 → Int32 → Option (Int32)) (hkb_4 : ∀ (x1 : Int32) (x2 : Int32) (x3 : Int32) (ls : Array Slot), lv_has ls 7 [(0, .ref (qM 0)), (1, .int x1), (2, .int x2), (3, .int x3)] → kb_4 x1 x2 x3 = some res → W p l e rm_X7_isSmall s m args below meth c s.heap [] 0 0 (MQ below (vp_Si (fun x => x = res)) args s 0 0 (fun _ : Nat => False)) (F0 m 4 ls [])) (kb_14 : Int32 → Int32 → Int32 → Int32 → Option (Int32)) (hkb_14 : ∀ (x1 : Int32) (x2 : Int32) (x3 : Int32) (x4 : Int32) (ls : Array Slot), lv_has ls 7 [(0, .ref (qM 0)), (1, .int x1), (2, .int x2), (3, .int x3), (4, .int x4)] → kb_14 x1 x2 x3 x4 = some res → W p l e rm_X7_isSmall s m args below meth c s.heap [] 0 0 (MQ below (vp_Si (fun x => x = res)) args s 0 0 (fun _ : Nat => False)) (F0 m 14 ls [])) : ∀ (x1 : Int32) (x3 : Int32) (x4 : Int32) (v0 : Int32) (ls : Array Slot), lv_has ls 7 [(0, .ref (qM 0)), (1, .int x1), (3, .int x3), (4, .int x4)] → f_X7_isSmall_137 zM kb_4 kb_14 x1 x3 x4 v0 = some res → W p l e rm_X7_isSmall s m args below meth c s.heap [] 0 0 (MQ below (vp_Si (fun x => x = res)) args s 0 0 (fun _ : Nat => False)) (F0 m 137 ls [.int v0]) := by
  obtain ⟨hx, hb, hr, hml, hown, hts, hlocks, hK, hR, hRA⟩ := id C0
  intro x1 x3 x4 v0 ls hl hf
  unfold f_X7_isSmall_137 at hf
  refine lv_istore_n (lv' := [(2, .int v0), (0, .ref (qM 0)), (1, .int x1), (3, .int x3), (4, .int x4)]) hx hb dX7_isSmall_137 rfl hl (by decide) rfl (fun ls hl => ?_)
  exact b_X7_isSmall_138 qM  zM C0 kb_4 hkb_4 kb_14 hkb_14 x1 v0 x3 x4 ls (lv_sub hl [1, 2, 0, 3, 4] rfl) hf
def f_X7_isSmall_136 (zM : MdS) (kb_4 : Int32 → Int32 → Int32 → Option (Int32)) (kb_14 : Int32 → Int32 → Int32 → Int32 → Option (Int32)) (x1 : Int32) (x3 : Int32) (x4 : Int32) : Option (Int32) := f_X7_isSmall_137 zM kb_4 kb_14 x1 x3 x4 (0 : Int32)
set_option maxHeartbeats 4000000 in
set_option maxRecDepth 100000 in
theorem b_X7_isSmall_136 {p : Program} {l : Launch} {e : Env} {s : State} {m : MethodId} {args : Array Value} {below : List Frame} {meth : Method} {c : Code} {G : va_G} {cA : Nat → ClassId} (qM : Nat → Nat) (zM : MdS) (C0 : Amb p s m args meth c cX7_isSmall RX7 7 (some .boolean) G cA (fun _ : Nat => False) ((wMd cA qM zM))) {res : Int32} (kb_4 : Int32 → Int32 → Int32 → Option (Int32)) (hkb_4 : ∀ (x1 : Int32) (x2 : Int32) (x3 : Int32) (ls : Array Slot), lv_has ls 7 [(0, .ref (qM 0)), (1, .int x1), (2, .int x2), (3, .int x3)] → kb_4 x1 x2 x3 = some res → W p l e rm_X7_isSmall s m args below meth c s.heap [] 0 0 (MQ below (vp_Si (fun x => x = res)) args s 0 0 (fun _ : Nat => False)) (F0 m 4 ls [])) (kb_14 : Int32 → Int32 → Int32 → Int32 → Option (Int32)) (hkb_14 : ∀ (x1 : Int32) (x2 : Int32) (x3 : Int32) (x4 : Int32) (ls : Array Slot), lv_has ls 7 [(0, .ref (qM 0)), (1, .int x1), (2, .int x2), (3, .int x3), (4, .int x4)] → kb_14 x1 x2 x3 x4 = some res → W p l e rm_X7_isSmall s m args below meth c s.heap [] 0 0 (MQ below (vp_Si (fun x => x = res)) args s 0 0 (fun _ : Nat => False)) (F0 m 14 ls [])) : ∀ (x1 : Int32) (x3 : Int32) (x4 : Int32) (ls : Array Slot), lv_has ls 7 [(0, .ref (qM 0)), (1, .int x1), (3, .int x3), (4, .int x4)] → f_X7_isSmall_136 zM kb_4 kb_14 x1 x3 x4 = some res → W p l e rm_X7_isSmall s m args below meth c s.heap [] 0 0 (MQ below (vp_Si (fun x => x = res)) args s 0 0 (fun _ : Nat => False)) (F0 m 136 ls []) := by
  obtain ⟨hx, hb, hr, hml, hown, hts, hlocks, hK, hR, hRA⟩ := id C0
  intro x1 x3 x4 ls hl hf
  unfold f_X7_isSmall_136 at hf
  refine lv_iconst (v := 0) hx hb dX7_isSmall_136 (by decide) ?_
  exact b_X7_isSmall_137 qM  zM C0 kb_4 hkb_4 kb_14 hkb_14 x1 x3 x4 (0 : Int32) ls (lv_sub hl [0, 1, 2, 3] rfl) hf
def f_X7_isSmall_14 (zM : MdS) (kb_4 : Int32 → Int32 → Int32 → Option (Int32)) : Nat → Int32 → Int32 → Int32 → Int32 → Option (Int32)
  | 0, _, _, _, _ => none
  | fu + 1, x1, x2, x3, x4 => if (13 : Int32) ≤ x4 then kb_4 x1 x2 (x3 + 1) else (some ((((((1150 : Int32) * x1) + ((25 : Int32) * x3)) + x4) + (12 : Int32)))).bind fun y_2 => if inb y_2 11500 = true then if ¬ (gM_up zM y_2.toNatClampNeg) = (0 : Int64) then (f_X7_countOf x3).bind fun r_5 => if x2 = 0 then f_X7_isSmall_136 zM kb_4 (fun x1_ x2_ x3_ x4_ => f_X7_isSmall_14 zM kb_4 fu x1_ x2_ x3_ x4_) x1 x3 x4 else if inb y_2 11500 = true then if (100 : Int64) < (gM_up zM y_2.toNatClampNeg) then f_X7_isSmall_136 zM kb_4 (fun x1_ x2_ x3_ x4_ => f_X7_isSmall_14 zM kb_4 fu x1_ x2_ x3_ x4_) x1 x3 x4 else if inb y_2 11500 = true then if (gM_up zM y_2.toNatClampNeg) < (-100 : Int64) then f_X7_isSmall_136 zM kb_4 (fun x1_ x2_ x3_ x4_ => f_X7_isSmall_14 zM kb_4 fu x1_ x2_ x3_ x4_) x1 x3 x4 else if inb y_2 11500 = true then if (6 : Int64) < (gM_down zM y_2.toNatClampNeg) then f_X7_isSmall_136 zM kb_4 (fun x1_ x2_ x3_ x4_ => f_X7_isSmall_14 zM kb_4 fu x1_ x2_ x3_ x4_) x1 x3 x4 else if (4 : Int32) < x4 then f_X7_isSmall_136 zM kb_4 (fun x1_ x2_ x3_ x4_ => f_X7_isSmall_14 zM kb_4 fu x1_ x2_ x3_ x4_) x1 x3 x4 else if x4 < (-4 : Int32) then f_X7_isSmall_136 zM kb_4 (fun x1_ x2_ x3_ x4_ => f_X7_isSmall_14 zM kb_4 fu x1_ x2_ x3_ x4_) x1 x3 x4 else if (3 : Int32) < r_5 then f_X7_isSmall_136 zM kb_4 (fun x1_ x2_ x3_ x4_ => f_X7_isSmall_14 zM kb_4 fu x1_ x2_ x3_ x4_) x1 x3 x4 else if r_5 < (-3 : Int32) then f_X7_isSmall_136 zM kb_4 (fun x1_ x2_ x3_ x4_ => f_X7_isSmall_14 zM kb_4 fu x1_ x2_ x3_ x4_) x1 x3 x4 else f_X7_isSmall_137 zM kb_4 (fun x1_ x2_ x3_ x4_ => f_X7_isSmall_14 zM kb_4 fu x1_ x2_ x3_ x4_) x1 x3 x4 (1 : Int32) else none else none else none else f_X7_isSmall_138 zM kb_4 (fun x1_ x2_ x3_ x4_ => f_X7_isSmall_14 zM kb_4 fu x1_ x2_ x3_ x4_) x1 x2 x3 x4 else none
set_option maxHeartbeats 4000000 in
set_option maxRecDepth 100000 in
theorem b_X7_isSmall_14 {p : Program} {l : Launch} {e : Env} {s : State} {m : MethodId} {args : Array Value} {below : List Frame} {meth : Method} {c : Code} {G : va_G} {cA : Nat → ClassId} (qM : Nat → Nat) (zM : MdS) (C0 : Amb p s m args meth c cX7_isSmall RX7 7 (some .boolean) G cA (fun _ : Nat => False) ((wMd cA qM zM))) {res : Int32} (kb_4 : Int32 → Int32 → Int32 → Option (Int32)) (hkb_4 : ∀ (x1 : Int32) (x2 : Int32) (x3 : Int32) (ls : Array Slot), lv_has ls 7 [(0, .ref (qM 0)), (1, .int x1), (2, .int x2), (3, .int x3)] → kb_4 x1 x2 x3 = some res → W p l e rm_X7_isSmall s m args below meth c s.heap [] 0 0 (MQ below (vp_Si (fun x => x = res)) args s 0 0 (fun _ : Nat => False)) (F0 m 4 ls [])) : ∀ (fu : Nat) (x1 : Int32) (x2 : Int32) (x3 : Int32) (x4 : Int32) (ls : Array Slot), lv_has ls 7 [(0, .ref (qM 0)), (1, .int x1), (2, .int x2), (3, .int x3), (4, .int x4)] → f_X7_isSmall_14 zM kb_4 fu x1 x2 x3 x4 = some res → W p l e rm_X7_isSmall s m args below meth c s.heap [] 0 0 (MQ below (vp_Si (fun x => x = res)) args s 0 0 (fun _ : Nat => False)) (F0 m 14 ls []) := by
  obtain ⟨hx, hb, hr, hml, hown, hts, hlocks, hK, hR, hRA⟩ := id C0
  intro fu
  induction fu with
  | zero =>
    intro x1 x2 x3 x4 ls hl hf
    rw [f_X7_isSmall_14] at hf
    cases hf
  | succ fu ih =>
    intro x1 x2 x3 x4 ls hl hf
    rw [f_X7_isSmall_14] at hf
    refine lv_iload hx hb dX7_isSmall_14 (lv_at hl 4 rfl) ?_
    refine lv_bipush (v := (13 : Int32)) hx hb dX7_isSmall_16 (by decide) ?_
    refine lv_icmp_ge (tgt := 144) hx hb dX7_isSmall_18 (by decide) (fun c_1 => ?_) (fun c_1 => ?_)
    · rw [if_pos (c_1)] at hf
      refine lv_iinc (v := (x3 + 1)) (lv' := [(3, .int (x3 + 1)), (0, .ref (qM 0)), (1, .int x1), (2, .int x2), (4, .int x4)]) hx hb dX7_isSmall_144 hl (k := 3) rfl rfl (by decide) rfl (fun ls hl => ?_)
      refine lv_goto (tgt := 4) hx hb dX7_isSmall_147 (by decide) ?_
      exact hkb_4 x1 x2 (x3 + 1) ls (lv_sub hl [1, 2, 3, 0] rfl) hf
    · rw [if_neg (c_1)] at hf
      refine lv_sipush (v := (1150 : Int32)) hx hb dX7_isSmall_21 (by decide) ?_
      refine lv_iload_n hx hb dX7_isSmall_24 rfl (lv_at hl 1 rfl) ?_
      refine lv_imul hx hb dX7_isSmall_25 ?_
      refine lv_bipush (v := (25 : Int32)) hx hb dX7_isSmall_26 (by decide) ?_
      refine lv_iload_n hx hb dX7_isSmall_28 rfl (lv_at hl 3 rfl) ?_
      refine lv_imul hx hb dX7_isSmall_29 ?_
      refine lv_iadd hx hb dX7_isSmall_30 ?_
      refine lv_iload hx hb dX7_isSmall_31 (lv_at hl 4 rfl) ?_
      refine lv_iadd hx hb dX7_isSmall_33 ?_
      refine lv_bipush (v := (12 : Int32)) hx hb dX7_isSmall_34 (by decide) ?_
      refine lv_iadd hx hb dX7_isSmall_36 ?_
      obtain ⟨y_2, hq, hf⟩ := obd hf
      have hy_2 : (((((1150 : Int32) * x1) + ((25 : Int32) * x3)) + x4) + (12 : Int32)) = y_2 := Option.some.inj hq
      rw [hy_2]
      refine lv_istore (lv' := [(5, .int y_2), (0, .ref (qM 0)), (1, .int x1), (2, .int x2), (3, .int x3), (4, .int x4)]) hx hb dX7_isSmall_37 hl (by decide) rfl (fun ls hl => ?_)
      refine lv_aload_n hx hb dX7_isSmall_39 rfl (lv_at hl 1 rfl) ?_
      refine va_get (D := G) (ci := 5) (v := .ref (qM 3)) (C := RX7) (T := TX7) (N := 13) hx hb hts fin_X7 hown hK.1 hR 0 rfl rfl 6 (by decide) (hts _ wi_677) (fun _ h9 => h9) rfl dX7_isSmall_40 ?_
      refine lv_iload hx hb dX7_isSmall_43 (lv_at hl 0 rfl) ?_
      obtain ⟨hi_3, hf⟩ := oif hf
      refine va_lald hx hb hK.1 hR 3 1 rfl rfl (inb_in hi_3) dX7_isSmall_45 ?_
      refine lv_lconst (v := (0 : Int64)) hx hb dX7_isSmall_46 (by decide) ?_
      refine W.lcmp hx hb dX7_isSmall_47 ?_
      refine lv_if_ne (tgt := 54) hx hb dX7_isSmall_48 (by decide) (fun c_4 => ?_) (fun c_4 => ?_)
      · rw [if_pos (fun h => c_4 ((lg_cmp_eq _ _).mpr h))] at hf
        refine lv_iload_n hx hb dX7_isSmall_54 rfl (lv_at hl 4 rfl) ?_
        obtain ⟨r_5, hr_5, hf⟩ := obd hf
        refine cRiS (As := [.int x3]) (rest := []) ⟨hx, hb, hml, hown, hts⟩ (m_X7_countOf l G cA x3 r_5 hr_5) (cw_X7_countOf hts wi_836 ⟨Nat.le_of_ble_eq_true rfl, Nat.le_of_ble_eq_true rfl⟩) hK va_Pnil rfl hl.1 rfl (Nat.le_of_ble_eq_true rfl) dX7_isSmall_55 ⟨Nat.zero_le _, Nat.zero_le _⟩ ?_
        refine lv_istore (lv' := [(6, .int r_5), (5, .int y_2), (0, .ref (qM 0)), (1, .int x1), (2, .int x2), (3, .int x3), (4, .int x4)]) hx hb dX7_isSmall_58 hl (by decide) rfl (fun ls hl => ?_)
        refine lv_iload_n hx hb dX7_isSmall_60 rfl (lv_at hl 4 rfl) ?_
        refine lv_if_eq (tgt := 136) hx hb dX7_isSmall_61 (by decide) (fun c_6 => ?_) (fun c_6 => ?_)
        · rw [if_pos (c_6)] at hf
          exact b_X7_isSmall_136 qM  zM C0 kb_4 hkb_4 (fun x1_ x2_ x3_ x4_ => f_X7_isSmall_14 zM kb_4 fu x1_ x2_ x3_ x4_) ih x1 x3 x4 ls (lv_sub hl [2, 3, 5, 6] rfl) hf
        · rw [if_neg (c_6)] at hf
          refine lv_aload_n hx hb dX7_isSmall_64 rfl (lv_at hl 2 rfl) ?_
          refine va_get (D := G) (ci := 5) (v := .ref (qM 3)) (C := RX7) (T := TX7) (N := 13) hx hb hts fin_X7 hown hK.1 hR 0 rfl rfl 6 (by decide) (hts _ wi_677) (fun _ h9 => h9) rfl dX7_isSmall_65 ?_
          refine lv_iload hx hb dX7_isSmall_68 (lv_at hl 1 rfl) ?_
          obtain ⟨hi_7, hf⟩ := oif hf
          refine va_lald hx hb hK.1 hR 3 1 rfl rfl (inb_in hi_7) dX7_isSmall_70 ?_
          refine lv_ldc2 (v := (100 : Int64)) hx hb hown (hts _ wi_851) dX7_isSmall_71 ?_
          refine W.lcmp hx hb dX7_isSmall_74 ?_
          refine lv_if_gt (tgt := 136) hx hb dX7_isSmall_75 (by decide) (fun c_8 => ?_) (fun c_8 => ?_)
          · rw [if_pos ((lg_cmp_gt _ _).mp c_8)] at hf
            exact b_X7_isSmall_136 qM  zM C0 kb_4 hkb_4 (fun x1_ x2_ x3_ x4_ => f_X7_isSmall_14 zM kb_4 fu x1_ x2_ x3_ x4_) ih x1 x3 x4 ls (lv_sub hl [2, 3, 5, 6] rfl) hf
          · rw [if_neg (fun h => c_8 ((lg_cmp_gt _ _).mpr h))] at hf
            refine lv_aload_n hx hb dX7_isSmall_78 rfl (lv_at hl 2 rfl) ?_
            refine va_get (D := G) (ci := 5) (v := .ref (qM 3)) (C := RX7) (T := TX7) (N := 13) hx hb hts fin_X7 hown hK.1 hR 0 rfl rfl 6 (by decide) (hts _ wi_677) (fun _ h9 => h9) rfl dX7_isSmall_79 ?_
            refine lv_iload hx hb dX7_isSmall_82 (lv_at hl 1 rfl) ?_
            obtain ⟨hi_9, hf⟩ := oif hf
            refine va_lald hx hb hK.1 hR 3 1 rfl rfl (inb_in hi_9) dX7_isSmall_84 ?_
            refine lv_ldc2 (v := (-100 : Int64)) hx hb hown (hts _ wi_852) dX7_isSmall_85 ?_
            refine W.lcmp hx hb dX7_isSmall_88 ?_
            refine lv_if_lt (tgt := 136) hx hb dX7_isSmall_89 (by decide) (fun c_10 => ?_) (fun c_10 => ?_)
            · rw [if_pos ((lg_cmp_lt _ _).mp c_10)] at hf
              exact b_X7_isSmall_136 qM  zM C0 kb_4 hkb_4 (fun x1_ x2_ x3_ x4_ => f_X7_isSmall_14 zM kb_4 fu x1_ x2_ x3_ x4_) ih x1 x3 x4 ls (lv_sub hl [2, 3, 5, 6] rfl) hf
            · rw [if_neg (fun h => c_10 ((lg_cmp_lt _ _).mpr h))] at hf
              refine lv_aload_n hx hb dX7_isSmall_92 rfl (lv_at hl 2 rfl) ?_
              refine va_get (D := G) (ci := 5) (v := .ref (qM 4)) (C := RX7) (T := TX7) (N := 13) hx hb hts fin_X7 hown hK.1 hR 0 rfl rfl 7 (by decide) (hts _ wi_678) (fun _ h9 => h9) rfl dX7_isSmall_93 ?_
              refine lv_iload hx hb dX7_isSmall_96 (lv_at hl 1 rfl) ?_
              obtain ⟨hi_11, hf⟩ := oif hf
              refine va_lald hx hb hK.1 hR 4 1 rfl rfl (inb_in hi_11) dX7_isSmall_98 ?_
              refine lv_ldc2 (v := (6 : Int64)) hx hb hown (hts _ wi_853) dX7_isSmall_99 ?_
              refine W.lcmp hx hb dX7_isSmall_102 ?_
              refine lv_if_gt (tgt := 136) hx hb dX7_isSmall_103 (by decide) (fun c_12 => ?_) (fun c_12 => ?_)
              · rw [if_pos ((lg_cmp_gt _ _).mp c_12)] at hf
                exact b_X7_isSmall_136 qM  zM C0 kb_4 hkb_4 (fun x1_ x2_ x3_ x4_ => f_X7_isSmall_14 zM kb_4 fu x1_ x2_ x3_ x4_) ih x1 x3 x4 ls (lv_sub hl [2, 3, 5, 6] rfl) hf
              · rw [if_neg (fun h => c_12 ((lg_cmp_gt _ _).mpr h))] at hf
                refine lv_iload hx hb dX7_isSmall_106 (lv_at hl 6 rfl) ?_
                refine lv_iconst (v := 4) hx hb dX7_isSmall_108 (by decide) ?_
                refine lv_icmp_gt (tgt := 136) hx hb dX7_isSmall_109 (by decide) (fun c_13 => ?_) (fun c_13 => ?_)
                · rw [if_pos (c_13)] at hf
                  exact b_X7_isSmall_136 qM  zM C0 kb_4 hkb_4 (fun x1_ x2_ x3_ x4_ => f_X7_isSmall_14 zM kb_4 fu x1_ x2_ x3_ x4_) ih x1 x3 x4 ls (lv_sub hl [2, 3, 5, 6] rfl) hf
                · rw [if_neg (c_13)] at hf
                  refine lv_iload hx hb dX7_isSmall_112 (lv_at hl 6 rfl) ?_
                  refine lv_bipush (v := (-4 : Int32)) hx hb dX7_isSmall_114 (by decide) ?_
                  refine lv_icmp_lt (tgt := 136) hx hb dX7_isSmall_116 (by decide) (fun c_14 => ?_) (fun c_14 => ?_)
                  · rw [if_pos (c_14)] at hf
                    exact b_X7_isSmall_136 qM  zM C0 kb_4 hkb_4 (fun x1_ x2_ x3_ x4_ => f_X7_isSmall_14 zM kb_4 fu x1_ x2_ x3_ x4_) ih x1 x3 x4 ls (lv_sub hl [2, 3, 5, 6] rfl) hf
                  · rw [if_neg (c_14)] at hf
                    refine lv_iload hx hb dX7_isSmall_119 (lv_at hl 0 rfl) ?_
                    refine lv_iconst (v := 3) hx hb dX7_isSmall_121 (by decide) ?_
                    refine lv_icmp_gt (tgt := 136) hx hb dX7_isSmall_122 (by decide) (fun c_15 => ?_) (fun c_15 => ?_)
                    · rw [if_pos (c_15)] at hf
                      exact b_X7_isSmall_136 qM  zM C0 kb_4 hkb_4 (fun x1_ x2_ x3_ x4_ => f_X7_isSmall_14 zM kb_4 fu x1_ x2_ x3_ x4_) ih x1 x3 x4 ls (lv_sub hl [2, 3, 5, 6] rfl) hf
                    · rw [if_neg (c_15)] at hf
                      refine lv_iload hx hb dX7_isSmall_125 (lv_at hl 0 rfl) ?_
                      refine lv_bipush (v := (-3 : Int32)) hx hb dX7_isSmall_127 (by decide) ?_
                      refine lv_icmp_lt (tgt := 136) hx hb dX7_isSmall_129 (by decide) (fun c_16 => ?_) (fun c_16 => ?_)
                      · rw [if_pos (c_16)] at hf
                        exact b_X7_isSmall_136 qM  zM C0 kb_4 hkb_4 (fun x1_ x2_ x3_ x4_ => f_X7_isSmall_14 zM kb_4 fu x1_ x2_ x3_ x4_) ih x1 x3 x4 ls (lv_sub hl [2, 3, 5, 6] rfl) hf
                      · rw [if_neg (c_16)] at hf
                        refine lv_iconst (v := 1) hx hb dX7_isSmall_132 (by decide) ?_
                        refine lv_goto (tgt := 137) hx hb dX7_isSmall_133 (by decide) ?_
                        exact b_X7_isSmall_137 qM  zM C0 kb_4 hkb_4 (fun x1_ x2_ x3_ x4_ => f_X7_isSmall_14 zM kb_4 fu x1_ x2_ x3_ x4_) ih x1 x3 x4 (1 : Int32) ls (lv_sub hl [2, 3, 5, 6] rfl) hf
      · rw [if_neg (fun h => h ((lg_cmp_eq _ _).mp c_4))] at hf
        refine lv_goto (tgt := 138) hx hb dX7_isSmall_51 (by decide) ?_
        exact b_X7_isSmall_138 qM  zM C0 kb_4 hkb_4 (fun x1_ x2_ x3_ x4_ => f_X7_isSmall_14 zM kb_4 fu x1_ x2_ x3_ x4_) ih x1 x2 x3 x4 ls (lv_sub hl [1, 2, 3, 4, 5] rfl) hf
def f_X7_isSmall_4 (zM : MdS) : Nat → Int32 → Int32 → Int32 → Option (Int32)
  | 0, _, _, _ => none
  | fu + 1, x1, x2, x3 => if (46 : Int32) ≤ x3 then if zb x2 = true then some x2 else none else f_X7_isSmall_14 zM (fun x1_ x2_ x3_ => f_X7_isSmall_4 zM fu x1_ x2_ x3_) fuel x1 x2 x3 (-12 : Int32)
set_option maxHeartbeats 4000000 in
set_option maxRecDepth 100000 in
theorem b_X7_isSmall_4 {p : Program} {l : Launch} {e : Env} {s : State} {m : MethodId} {args : Array Value} {below : List Frame} {meth : Method} {c : Code} {G : va_G} {cA : Nat → ClassId} (qM : Nat → Nat) (zM : MdS) (C0 : Amb p s m args meth c cX7_isSmall RX7 7 (some .boolean) G cA (fun _ : Nat => False) ((wMd cA qM zM))) {res : Int32} : ∀ (fu : Nat) (x1 : Int32) (x2 : Int32) (x3 : Int32) (ls : Array Slot), lv_has ls 7 [(0, .ref (qM 0)), (1, .int x1), (2, .int x2), (3, .int x3)] → f_X7_isSmall_4 zM fu x1 x2 x3 = some res → W p l e rm_X7_isSmall s m args below meth c s.heap [] 0 0 (MQ below (vp_Si (fun x => x = res)) args s 0 0 (fun _ : Nat => False)) (F0 m 4 ls []) := by
  obtain ⟨hx, hb, hr, hml, hown, hts, hlocks, hK, hR, hRA⟩ := id C0
  intro fu
  induction fu with
  | zero =>
    intro x1 x2 x3 ls hl hf
    rw [f_X7_isSmall_4] at hf
    cases hf
  | succ fu ih =>
    intro x1 x2 x3 ls hl hf
    rw [f_X7_isSmall_4] at hf
    refine lv_iload_n hx hb dX7_isSmall_4 rfl (lv_at hl 3 rfl) ?_
    refine lv_bipush (v := (46 : Int32)) hx hb dX7_isSmall_5 (by decide) ?_
    refine lv_icmp_ge (tgt := 150) hx hb dX7_isSmall_7 (by decide) (fun c_1 => ?_) (fun c_1 => ?_)
    · rw [if_pos (c_1)] at hf
      refine lv_iload_n hx hb dX7_isSmall_150 rfl (lv_at hl 2 rfl) ?_
      obtain ⟨hz_2, hf⟩ := oif hf
      cases hf
      exact W.zret hx hb hr (zb_n hz_2) (fun t ht hW => ⟨_, rfl, rfl, ht⟩) (fun q hq => by cases hq) dX7_isSmall_151 hlocks
    · rw [if_neg (c_1)] at hf
      refine lv_bipush (v := (-12 : Int32)) hx hb dX7_isSmall_10 (by decide) ?_
      refine lv_istore (lv' := [(4, .int (-12 : Int32)), (0, .ref (qM 0)), (1, .int x1), (2, .int x2), (3, .int x3)]) hx hb dX7_isSmall_12 hl (by decide) rfl (fun ls hl => ?_)
      exact b_X7_isSmall_14 qM  zM C0 (fun x1_ x2_ x3_ => f_X7_isSmall_4 zM fu x1_ x2_ x3_) ih fuel x1 x2 x3 (-12 : Int32) ls (lv_sub hl [1, 2, 3, 4, 0] rfl) hf
def f_X7_isSmall (zM : MdS) (a1 : Int32) : Option (Int32) := f_X7_isSmall_4 zM fuel a1 (1 : Int32) (0 : Int32)
set_option maxHeartbeats 4000000 in
set_option maxRecDepth 100000 in
theorem b_X7_isSmall_0 {p : Program} {l : Launch} {e : Env} {s : State} {m : MethodId} {args : Array Value} {below : List Frame} {meth : Method} {c : Code} {G : va_G} {cA : Nat → ClassId} (qM : Nat → Nat) (zM : MdS) (C0 : Amb p s m args meth c cX7_isSmall RX7 7 (some .boolean) G cA (fun _ : Nat => False) ((wMd cA qM zM))) {res : Int32} : ∀ (a1 : Int32) (ls : Array Slot), lv_has ls 7 [(0, .ref (qM 0)), (1, .int a1)] → f_X7_isSmall zM a1 = some res → W p l e rm_X7_isSmall s m args below meth c s.heap [] 0 0 (MQ below (vp_Si (fun x => x = res)) args s 0 0 (fun _ : Nat => False)) (F0 m 0 ls []) := by
  obtain ⟨hx, hb, hr, hml, hown, hts, hlocks, hK, hR, hRA⟩ := id C0
  intro a1 ls hl hf
  unfold f_X7_isSmall at hf
  refine lv_iconst (v := 1) hx hb dX7_isSmall_0 (by decide) ?_
  refine lv_istore_n (lv' := [(2, .int (1 : Int32)), (0, .ref (qM 0)), (1, .int a1)]) hx hb dX7_isSmall_1 rfl hl (by decide) rfl (fun ls hl => ?_)
  refine lv_iconst (v := 0) hx hb dX7_isSmall_2 (by decide) ?_
  refine lv_istore_n (lv' := [(3, .int (0 : Int32)), (2, .int (1 : Int32)), (0, .ref (qM 0)), (1, .int a1)]) hx hb dX7_isSmall_3 rfl hl (by decide) rfl (fun ls hl => ?_)
  exact b_X7_isSmall_4 qM  zM C0  fuel a1 (1 : Int32) (0 : Int32) ls (lv_sub hl [2, 3, 1, 0] rfl) hf

set_option maxRecDepth 100000 in
theorem m_X7_isSmall (l : Launch) (G : va_G) (cA : Nat → ClassId) (qM : Nat → Nat) (zM : MdS) (a1 : Int32) (res : Int32) (hf : f_X7_isSmall zM a1 = some res) : MRi l yX7_isSmall (.code yX7_isSmall cX7_isSmall 7 (some .boolean) :: wd) rm_X7_isSmall G cA [.ref (qM 0), .int a1] ((wMd cA qM zM)) res := by
  refine Met.ofW (cc := cX7_isSmall) (maxL := 7) (ret := (some .boolean)) (by decide) rfl ?_
  intro p e s m args below meth c s₁ B hml hv
  obtain ⟨rfl, hK, hR⟩ := hv
  have C0 : Amb p s m ([.ref (qM 0), .int a1] : List Value).toArray meth c cX7_isSmall RX7 7 (some .boolean) G cA (fun _ : Nat => False) ((wMd cA qM zM)) := ⟨B.exec, B.bytes, B.returns, hml, findClass_of_methodNamed B.named, fun w h => atoms_spec (ws := (.code yX7_isSmall cX7_isSmall 7 (some .boolean) :: wd)) B.pre w (List.mem_cons_of_mem _ h), B.notSynchronized, hK, hR, fun _ _ _ h => h⟩
  have hl := lv_entry ([.ref (qM 0), .int a1]) (n := 7) (Nat.le_of_ble_eq_true rfl)
  rw [lg_entry_eq]
  generalize (lg_sl ([.ref (qM 0), .int a1]) ++ List.replicate (7 - (lg_sl ([.ref (qM 0), .int a1])).length) Slot.unset).toArray = ls at hl ⊢
  have hl : lv_has ls 7 [(0, .ref (qM 0)), (1, .int a1)] := hl
  exact b_X7_isSmall_0 qM  zM C0 a1 ls hl hf
theorem cw_X7_isSmall {R : Room} {s : State} {args : Array Value} {own : String} {index : Nat} (ht : ∀ w ∈ wd, w.before args s = true) (hlink : Cond.methodLink own index yX7_isSmall ∈ wd) (hR : rm_X7_isSmall.frames + 1 ≤ R.frames ∧ 8 + (7 + 11) + rm_X7_isSmall.locals ≤ R.locals) : CallW R s args own RX7 index yX7_isSmall cX7_isSmall 7 (some .boolean) (.code yX7_isSmall cX7_isSmall 7 (some .boolean) :: wd) rm_X7_isSmall 0 0 1 := cwV9 1 ht wi_850 wi_849 wi_48 wi_60 hlink (by decide +kernel) rfl rfl hR
def rm_X7_refused : Room := { frames := 0, cells := 0, slots := 0, locals := 0 }
def f_X7_refused (zM : MdS) (a1 : Int32) : Option (Int32 × MdS) := if a1 ≤ 0 then some ((0 : Int32), (uM_refusal zM a1)) else some ((1 : Int32), (uM_refusal zM a1))
set_option maxHeartbeats 4000000 in
set_option maxRecDepth 100000 in
theorem b_X7_refused_0 {p : Program} {l : Launch} {e : Env} {s : State} {m : MethodId} {args : Array Value} {below : List Frame} {meth : Method} {c : Code} {G : va_G} {cA : Nat → ClassId} {W9 : va_W} (qM : Nat → Nat) (C0 : Amb p s m args meth c cX7_refused RX7 2 (some .boolean) G cA (adr W9) []) {res : Int32 × MdS} : ∀ (zM : MdS) (a1 : Int32) (H : Heap) (locs : List Loc) (ls : Array Slot), va_P G vwCl ((wMd cA qM zM)) H → va_D (adr W9) ((wMd cA qM zM)) → va_S (adr W9) s.heap H locs → lv_has ls 2 [(0, .ref (qM 0)), (1, .int a1)] → f_X7_refused zM a1 = some res → W p l e rm_X7_refused s m args below meth c H locs 0 0 (MQ below (qWi G W9 ((wMd cA qM res.2)) res.1) args s 0 0 (adr W9)) (F0 m 0 ls []) := by
  obtain ⟨hx, hb, hr, hml, hown, hts, hlocks, hK, hR, hRA⟩ := id C0
  intro zM a1 H locs ls hP hD hS hl hf
  unfold f_X7_refused at hf
  refine lv_aload_n hx hb dX7_refused_0 rfl (lv_at hl 0 rfl) ?_
  refine lv_iload_n hx hb dX7_refused_1 rfl (lv_at hl 1 rfl) ?_
  refine va_put (D := G) (ci := 5) (v := .int a1) (ty := .int) (C := RX7) (T := TX7) (N := 13) hx hb hts fin_X7 tyX7 tyX7_ok nmX7 hown hK.1 hP hD hS 0 rfl rfl 0 (by decide) (hts _ wi_671) (fun _ h9 => h9) rfl (by decide +kernel) rfl rfl (Nat.le_of_ble_eq_true rfl) dX7_refused_2 (fun H locs hP hD hS => ?_)
  have hP : va_P G vwCl ((wMd cA qM (uM_refusal zM a1))) H := hP
  have hD : va_D (adr W9) ((wMd cA qM (uM_refusal zM a1))) := hD
  refine lv_iload_n hx hb dX7_refused_5 rfl (lv_at hl 1 rfl) ?_
  refine lv_if_le (tgt := 13) hx hb dX7_refused_6 (by decide) (fun c_1 => ?_) (fun c_1 => ?_)
  · rw [if_pos (c_1)] at hf
    refine lv_iconst (v := 0) hx hb dX7_refused_13 (by decide) ?_
    cases hf
    exact W.zret hx hb hr (by decide) (fun t ht hW => ⟨⟨_, (), rfl, rfl, toT ht hP⟩, hS.F ht⟩) hS.2.2 dX7_refused_14 hlocks
  · rw [if_neg (c_1)] at hf
    refine lv_iconst (v := 1) hx hb dX7_refused_9 (by decide) ?_
    refine lv_goto (tgt := 14) hx hb dX7_refused_10 (by decide) ?_
    cases hf
    exact W.zret hx hb hr (by decide) (fun t ht hW => ⟨⟨_, (), rfl, rfl, toT ht hP⟩, hS.F ht⟩) hS.2.2 dX7_refused_14 hlocks

set_option maxRecDepth 100000 in
theorem m_X7_refused (l : Launch) (G : va_G) (cA : Nat → ClassId) (qM : Nat → Nat) (zM : MdS) (a1 : Int32) (res : Int32 × MdS) (hf : f_X7_refused zM a1 = some res) : MWi l yX7_refused (.code yX7_refused cX7_refused 2 (some .boolean) :: wd) rm_X7_refused G cA [.ref (qM 0), .int a1] ((wMd cA qM zM)) [] ((wMd cA qM res.2)) res.1 := by
  refine Met.ofW (cc := cX7_refused) (maxL := 2) (ret := (some .boolean)) (by decide) rfl ?_
  intro p e s m args below meth c s₁ B hml hv
  obtain ⟨rfl, hK, hP, hD0, hR, hRA⟩ := hv
  have C0 : Amb p s m ([.ref (qM 0), .int a1] : List Value).toArray meth c cX7_refused RX7 2 (some .boolean) G cA (adr ((wMd cA qM zM))) [] := ⟨B.exec, B.bytes, B.returns, hml, findClass_of_methodNamed B.named, fun w h => atoms_spec (ws := (.code yX7_refused cX7_refused 2 (some .boolean) :: wd)) B.pre w (List.mem_cons_of_mem _ h), B.notSynchronized, hK, hR, hRA⟩
  have hl := lv_entry ([.ref (qM 0), .int a1]) (n := 2) (Nat.le_of_ble_eq_true rfl)
  rw [lg_entry_eq]
  generalize (lg_sl ([.ref (qM 0), .int a1]) ++ List.replicate (2 - (lg_sl ([.ref (qM 0), .int a1])).length) Slot.unset).toArray = ls at hl ⊢
  have hl : lv_has ls 2 [(0, .ref (qM 0)), (1, .int a1)] := hl
  exact b_X7_refused_0 (W9 := ((wMd cA qM zM))) qM   C0 zM a1 s.heap [] ls hP (adr.self hD0) va_S.rf hl hf
theorem cw_X7_refused {R : Room} {s : State} {args : Array Value} {own : String} {index : Nat} (ht : ∀ w ∈ wd, w.before args s = true) (hlink : Cond.methodLink own index yX7_refused ∈ wd) (hR : rm_X7_refused.frames + 1 ≤ R.frames ∧ 8 + (2 + 11) + rm_X7_refused.locals ≤ R.locals) : CallW R s args own RX7 index yX7_refused cX7_refused 2 (some .boolean) (.code yX7_refused cX7_refused 2 (some .boolean) :: wd) rm_X7_refused 0 0 1 := cwV9 1 ht wi_726 wi_725 wi_29 wi_60 hlink (by decide +kernel) rfl rfl hR
def rm_X7_empty : Room := { frames := 0, cells := 0, slots := 0, locals := 0 }
def f_X7_empty_6  : Nat → MdS → Int32 → Int32 → Option (MdS)
  | 0, _, _, _ => none
  | fu + 1, zM, x1, x2 => if (((1150 : Int32) * x1) + (1150 : Int32)) ≤ x2 then some zM else if inb x2 11500 = true then if inb x2 11500 = true then f_X7_empty_6  fu (uM_down (uM_up zM (vp_updL (gM_up zM) x2.toNatClampNeg (0 : Int64))) (vp_updL (gM_down (uM_up zM (vp_updL (gM_up zM) x2.toNatClampNeg (0 : Int64)))) x2.toNatClampNeg (1 : Int64))) x1 (x2 + 1) else none else none
set_option maxHeartbeats 4000000 in
set_option maxRecDepth 100000 in
theorem b_X7_empty_6 {p : Program} {l : Launch} {e : Env} {s : State} {m : MethodId} {args : Array Value} {below : List Frame} {meth : Method} {c : Code} {G : va_G} {cA : Nat → ClassId} {W9 : va_W} (qM : Nat → Nat) (C0 : Amb p s m args meth c cX7_empty RX7 3 none G cA (adr W9) []) {res : MdS} : ∀ (fu : Nat) (zM : MdS) (x1 : Int32) (x2 : Int32) (H : Heap) (locs : List Loc) (ls : Array Slot), va_P G vwCl ((wMd cA qM zM)) H → va_D (adr W9) ((wMd cA qM zM)) → va_S (adr W9) s.heap H locs → lv_has ls 3 [(0, .ref (qM 0)), (1, .int x1), (2, .int x2)] → f_X7_empty_6 fu zM x1 x2 = some res → W p l e rm_X7_empty s m args below meth c H locs 0 0 (MQ below (qWv G W9 ((wMd cA qM res))) args s 0 0 (adr W9)) (F0 m 6 ls []) := by
  obtain ⟨hx, hb, hr, hml, hown, hts, hlocks, hK, hR, hRA⟩ := id C0
  intro fu
  induction fu with
  | zero =>
    intro zM x1 x2 H locs ls hP hD hS hl hf
    rw [f_X7_empty_6] at hf
    cases hf
  | succ fu ih =>
    intro zM x1 x2 H locs ls hP hD hS hl hf
    rw [f_X7_empty_6] at hf
    refine lv_iload_n hx hb dX7_empty_6 rfl (lv_at hl 2 rfl) ?_
    refine lv_sipush (v := (1150 : Int32)) hx hb dX7_empty_7 (by decide) ?_
    refine lv_iload_n hx hb dX7_empty_10 rfl (lv_at hl 1 rfl) ?_
    refine lv_imul hx hb dX7_empty_11 ?_
    refine lv_sipush (v := (1150 : Int32)) hx hb dX7_empty_12 (by decide) ?_
    refine lv_iadd hx hb dX7_empty_15 ?_
    refine lv_icmp_ge (tgt := 39) hx hb dX7_empty_16 (by decide) (fun c_1 => ?_) (fun c_1 => ?_)
    · rw [if_pos (c_1)] at hf
      cases hf
      exact W.vret hx hb hr (fun t ht hW => ⟨⟨(), rfl, trivial, toT ht hP⟩, hS.F ht⟩) hS.2.2 dX7_empty_39 hlocks
    · rw [if_neg (c_1)] at hf
      refine lv_aload_n hx hb dX7_empty_19 rfl (lv_at hl 0 rfl) ?_
      refine va_get (D := G) (ci := 5) (v := .ref (qM 3)) (C := RX7) (T := TX7) (N := 13) hx hb hts fin_X7 hown hK.1 hP 0 rfl rfl 6 (by decide) (hts _ wi_677) (fun _ h9 => h9) rfl dX7_empty_20 ?_
      refine lv_iload_n hx hb dX7_empty_23 rfl (lv_at hl 2 rfl) ?_
      refine lv_lconst (v := (0 : Int64)) hx hb dX7_empty_24 (by decide) ?_
      obtain ⟨hi_2, hf⟩ := oif hf
      refine va_last hx hb hK.1 hP hD hS 3 1 rfl rfl (inb_in hi_2) dX7_empty_25 (fun H locs hP hD hS => ?_)
      have hP : va_P G vwCl ((wMd cA qM (uM_up zM (vp_updL (gM_up zM) x2.toNatClampNeg (0 : Int64))))) H := hP
      have hD : va_D (adr W9) ((wMd cA qM (uM_up zM (vp_updL (gM_up zM) x2.toNatClampNeg (0 : Int64))))) := hD
      refine lv_aload_n hx hb dX7_empty_26 rfl (lv_at hl 0 rfl) ?_
      refine va_get (D := G) (ci := 5) (v := .ref (qM 4)) (C := RX7) (T := TX7) (N := 13) hx hb hts fin_X7 hown hK.1 hP 0 rfl rfl 7 (by decide) (hts _ wi_678) (fun _ h9 => h9) rfl dX7_empty_27 ?_
      refine lv_iload_n hx hb dX7_empty_30 rfl (lv_at hl 2 rfl) ?_
      refine lv_lconst (v := (1 : Int64)) hx hb dX7_empty_31 (by decide) ?_
      obtain ⟨hi_3, hf⟩ := oif hf
      refine va_last hx hb hK.1 hP hD hS 4 1 rfl rfl (inb_in hi_3) dX7_empty_32 (fun H locs hP hD hS => ?_)
      have hP : va_P G vwCl ((wMd cA qM (uM_down (uM_up zM (vp_updL (gM_up zM) x2.toNatClampNeg (0 : Int64))) (vp_updL (gM_down (uM_up zM (vp_updL (gM_up zM) x2.toNatClampNeg (0 : Int64)))) x2.toNatClampNeg (1 : Int64))))) H := hP
      have hD : va_D (adr W9) ((wMd cA qM (uM_down (uM_up zM (vp_updL (gM_up zM) x2.toNatClampNeg (0 : Int64))) (vp_updL (gM_down (uM_up zM (vp_updL (gM_up zM) x2.toNatClampNeg (0 : Int64)))) x2.toNatClampNeg (1 : Int64))))) := hD
      refine lv_iinc (v := (x2 + 1)) (lv' := [(2, .int (x2 + 1)), (0, .ref (qM 0)), (1, .int x1)]) hx hb dX7_empty_33 hl (k := 2) rfl rfl (by decide) rfl (fun ls hl => ?_)
      refine lv_goto (tgt := 6) hx hb dX7_empty_36 (by decide) ?_
      exact ih (uM_down (uM_up zM (vp_updL (gM_up zM) x2.toNatClampNeg (0 : Int64))) (vp_updL (gM_down (uM_up zM (vp_updL (gM_up zM) x2.toNatClampNeg (0 : Int64)))) x2.toNatClampNeg (1 : Int64))) x1 (x2 + 1) H locs ls hP hD hS (lv_sub hl [1, 2, 0] rfl) hf
def f_X7_empty (zM : MdS) (a1 : Int32) : Option (MdS) := (some (((1150 : Int32) * a1))).bind fun y_1 => f_X7_empty_6 fuel zM a1 y_1
set_option maxHeartbeats 4000000 in
set_option maxRecDepth 100000 in
theorem b_X7_empty_0 {p : Program} {l : Launch} {e : Env} {s : State} {m : MethodId} {args : Array Value} {below : List Frame} {meth : Method} {c : Code} {G : va_G} {cA : Nat → ClassId} {W9 : va_W} (qM : Nat → Nat) (C0 : Amb p s m args meth c cX7_empty RX7 3 none G cA (adr W9) []) {res : MdS} : ∀ (zM : MdS) (a1 : Int32) (H : Heap) (locs : List Loc) (ls : Array Slot), va_P G vwCl ((wMd cA qM zM)) H → va_D (adr W9) ((wMd cA qM zM)) → va_S (adr W9) s.heap H locs → lv_has ls 3 [(0, .ref (qM 0)), (1, .int a1)] → f_X7_empty zM a1 = some res → W p l e rm_X7_empty s m args below meth c H locs 0 0 (MQ below (qWv G W9 ((wMd cA qM res))) args s 0 0 (adr W9)) (F0 m 0 ls []) := by
  obtain ⟨hx, hb, hr, hml, hown, hts, hlocks, hK, hR, hRA⟩ := id C0
  intro zM a1 H locs ls hP hD hS hl hf
  unfold f_X7_empty at hf
  refine lv_sipush (v := (1150 : Int32)) hx hb dX7_empty_0 (by decide) ?_
  refine lv_iload_n hx hb dX7_empty_3 rfl (lv_at hl 1 rfl) ?_
  refine lv_imul hx hb dX7_empty_4 ?_
  obtain ⟨y_1, hq, hf⟩ := obd hf
  have hy_1 : ((1150 : Int32) * a1) = y_1 := Option.some.inj hq
  rw [hy_1]
  refine lv_istore_n (lv' := [(2, .int y_1), (0, .ref (qM 0)), (1, .int a1)]) hx hb dX7_empty_5 rfl hl (by decide) rfl (fun ls hl => ?_)
  exact b_X7_empty_6 qM   C0  fuel zM a1 y_1 H locs ls hP hD hS (lv_sub hl [1, 2, 0] rfl) hf

set_option maxRecDepth 100000 in
theorem m_X7_empty (l : Launch) (G : va_G) (cA : Nat → ClassId) (qM : Nat → Nat) (zM : MdS) (a1 : Int32) (res : MdS) (hf : f_X7_empty zM a1 = some res) : MWv l yX7_empty (.code yX7_empty cX7_empty 3 none :: wd) rm_X7_empty G cA [.ref (qM 0), .int a1] ((wMd cA qM zM)) [] ((wMd cA qM res)) := by
  refine Met.ofW (cc := cX7_empty) (maxL := 3) (ret := none) (by decide) rfl ?_
  intro p e s m args below meth c s₁ B hml hv
  obtain ⟨rfl, hK, hP, hD0, hR, hRA⟩ := hv
  have C0 : Amb p s m ([.ref (qM 0), .int a1] : List Value).toArray meth c cX7_empty RX7 3 none G cA (adr ((wMd cA qM zM))) [] := ⟨B.exec, B.bytes, B.returns, hml, findClass_of_methodNamed B.named, fun w h => atoms_spec (ws := (.code yX7_empty cX7_empty 3 none :: wd)) B.pre w (List.mem_cons_of_mem _ h), B.notSynchronized, hK, hR, hRA⟩
  have hl := lv_entry ([.ref (qM 0), .int a1]) (n := 3) (Nat.le_of_ble_eq_true rfl)
  rw [lg_entry_eq]
  generalize (lg_sl ([.ref (qM 0), .int a1]) ++ List.replicate (3 - (lg_sl ([.ref (qM 0), .int a1])).length) Slot.unset).toArray = ls at hl ⊢
  have hl : lv_has ls 3 [(0, .ref (qM 0)), (1, .int a1)] := hl
  exact b_X7_empty_0 (W9 := ((wMd cA qM zM))) qM   C0 zM a1 s.heap [] ls hP (adr.self hD0) va_S.rf hl hf
theorem cw_X7_empty {R : Room} {s : State} {args : Array Value} {own : String} {index : Nat} (ht : ∀ w ∈ wd, w.before args s = true) (hlink : Cond.methodLink own index yX7_empty ∈ wd) (hR : rm_X7_empty.frames + 1 ≤ R.frames ∧ 8 + (3 + 11) + rm_X7_empty.locals ≤ R.locals) : CallW R s args own RX7 index yX7_empty cX7_empty 3 none (.code yX7_empty cX7_empty 3 none :: wd) rm_X7_empty 0 0 1 := cwV9 1 ht wi_741 wi_740 wi_30 wi_60 hlink (by decide +kernel) rfl rfl hR
def rm_X7_addTerm : Room := { frames := 1, cells := 0, slots := 0, locals := 29 }
def f_X7_addTerm_125 (zM : MdS) (x1 : Int32) (x4 : Int32) (x7 : Int64) (x9 : Int64) (x11 : Int32) (x12 : Int32) : Option (MdS) := (f_X7_functionOf x11 x12).bind fun r_1 => (some ((((((1150 : Int32) * x1) + ((25 : Int32) * r_1)) + x4) + (12 : Int32)))).bind fun y_2 => if inb y_2 11500 = true then if inb y_2 11500 = true then (some ((((gM_up zM y_2.toNatClampNeg) * x7) + (x9 * (gM_down zM y_2.toNatClampNeg))))).bind fun y_5 => if inb y_2 11500 = true then (some (((gM_down zM y_2.toNatClampNeg) * x7))).bind fun y_7 => (f_X7_gcd y_5 y_7).bind fun r_8 => if ¬ r_8 = 0 then if inb y_2 11500 = true then if ¬ r_8 = 0 then if inb y_2 11500 = true then some (uM_down (uM_up zM (vp_updL (gM_up zM) y_2.toNatClampNeg (y_5 / r_8))) (vp_updL (gM_down (uM_up zM (vp_updL (gM_up zM) y_2.toNatClampNeg (y_5 / r_8)))) y_2.toNatClampNeg (y_7 / r_8))) else none else none else none else none else none else none else none
set_option maxHeartbeats 4000000 in
set_option maxRecDepth 100000 in
theorem b_X7_addTerm_125 {p : Program} {l : Launch} {e : Env} {s : State} {m : MethodId} {args : Array Value} {below : List Frame} {meth : Method} {c : Code} {G : va_G} {cA : Nat → ClassId} {W9 : va_W} (qM : Nat → Nat) (C0 : Amb p s m args meth c cX7_addTerm RX7 20 none G cA (adr W9) []) {res : MdS} : ∀ (zM : MdS) (x1 : Int32) (x4 : Int32) (x7 : Int64) (x9 : Int64) (x11 : Int32) (x12 : Int32) (H : Heap) (locs : List Loc) (ls : Array Slot), va_P G vwCl ((wMd cA qM zM)) H → va_D (adr W9) ((wMd cA qM zM)) → va_S (adr W9) s.heap H locs → lv_has ls 20 [(0, .ref (qM 0)), (1, .int x1), (4, .int x4), (7, .long x7), (9, .long x9), (11, .int x11), (12, .int x12)] → f_X7_addTerm_125 zM x1 x4 x7 x9 x11 x12 = some res → W p l e rm_X7_addTerm s m args below meth c H locs 0 0 (MQ below (qWv G W9 ((wMd cA qM res))) args s 0 0 (adr W9)) (F0 m 125 ls []) := by
  obtain ⟨hx, hb, hr, hml, hown, hts, hlocks, hK, hR, hRA⟩ := id C0
  intro zM x1 x4 x7 x9 x11 x12 H locs ls hP hD hS hl hf
  unfold f_X7_addTerm_125 at hf
  refine lv_sipush (v := (1150 : Int32)) hx hb dX7_addTerm_125 (by decide) ?_
  refine lv_iload_n hx hb dX7_addTerm_128 rfl (lv_at hl 1 rfl) ?_
  refine lv_imul hx hb dX7_addTerm_129 ?_
  refine lv_bipush (v := (25 : Int32)) hx hb dX7_addTerm_130 (by decide) ?_
  refine lv_iload hx hb dX7_addTerm_132 (lv_at hl 5 rfl) ?_
  refine lv_iload hx hb dX7_addTerm_134 (lv_at hl 6 rfl) ?_
  obtain ⟨r_1, hr_1, hf⟩ := obd hf
  refine cRiS (As := [.int x11, .int x12]) (rest := [.int (25 : Int32), .int ((1150 : Int32) * x1)]) ⟨hx, hb, hml, hown, hts⟩ (m_X7_functionOf l G cA x11 x12 r_1 hr_1) (cw_X7_functionOf hts wi_776 ⟨Nat.le_of_ble_eq_true rfl, Nat.le_of_ble_eq_true rfl⟩) hK va_Pnil rfl hl.1 rfl (Nat.le_of_ble_eq_true rfl) dX7_addTerm_136 ⟨Nat.zero_le _, Nat.zero_le _⟩ ?_
  refine lv_imul hx hb dX7_addTerm_139 ?_
  refine lv_iadd hx hb dX7_addTerm_140 ?_
  refine lv_iload hx hb dX7_addTerm_141 (lv_at hl 2 rfl) ?_
  refine lv_iadd hx hb dX7_addTerm_143 ?_
  refine lv_bipush (v := (12 : Int32)) hx hb dX7_addTerm_144 (by decide) ?_
  refine lv_iadd hx hb dX7_addTerm_146 ?_
  obtain ⟨y_2, hq, hf⟩ := obd hf
  have hy_2 : (((((1150 : Int32) * x1) + ((25 : Int32) * r_1)) + x4) + (12 : Int32)) = y_2 := Option.some.inj hq
  rw [hy_2]
  refine lv_istore (lv' := [(13, .int y_2), (0, .ref (qM 0)), (1, .int x1), (4, .int x4), (7, .long x7), (9, .long x9), (11, .int x11), (12, .int x12)]) hx hb dX7_addTerm_147 hl (by decide) rfl (fun ls hl => ?_)
  refine lv_aload_n hx hb dX7_addTerm_149 rfl (lv_at hl 1 rfl) ?_
  refine va_get (D := G) (ci := 5) (v := .ref (qM 3)) (C := RX7) (T := TX7) (N := 13) hx hb hts fin_X7 hown hK.1 hP 0 rfl rfl 6 (by decide) (hts _ wi_677) (fun _ h9 => h9) rfl dX7_addTerm_150 ?_
  refine lv_iload hx hb dX7_addTerm_153 (lv_at hl 0 rfl) ?_
  obtain ⟨hi_3, hf⟩ := oif hf
  refine va_lald hx hb hK.1 hP 3 1 rfl rfl (inb_in hi_3) dX7_addTerm_155 ?_
  refine lv_lload hx hb dX7_addTerm_156 (lv_at hl 4 rfl) ?_
  refine lv_lmul hx hb dX7_addTerm_158 ?_
  refine lv_lload hx hb dX7_addTerm_159 (lv_at hl 5 rfl) ?_
  refine lv_aload_n hx hb dX7_addTerm_161 rfl (lv_at hl 1 rfl) ?_
  refine va_get (D := G) (ci := 5) (v := .ref (qM 4)) (C := RX7) (T := TX7) (N := 13) hx hb hts fin_X7 hown hK.1 hP 0 rfl rfl 7 (by decide) (hts _ wi_678) (fun _ h9 => h9) rfl dX7_addTerm_162 ?_
  refine lv_iload hx hb dX7_addTerm_165 (lv_at hl 0 rfl) ?_
  obtain ⟨hi_4, hf⟩ := oif hf
  refine va_lald hx hb hK.1 hP 4 1 rfl rfl (inb_in hi_4) dX7_addTerm_167 ?_
  refine lv_lmul hx hb dX7_addTerm_168 ?_
  refine lv_ladd hx hb dX7_addTerm_169 ?_
  obtain ⟨y_5, hq, hf⟩ := obd hf
  have hy_5 : (((gM_up zM y_2.toNatClampNeg) * x7) + (x9 * (gM_down zM y_2.toNatClampNeg))) = y_5 := Option.some.inj hq
  rw [hy_5]
  refine lv_lstore (lv' := [(14, .long y_5), (13, .int y_2), (0, .ref (qM 0)), (1, .int x1), (4, .int x4), (7, .long x7), (9, .long x9), (11, .int x11), (12, .int x12)]) hx hb dX7_addTerm_170 hl (by decide) rfl (fun ls hl => ?_)
  refine lv_aload_n hx hb dX7_addTerm_172 rfl (lv_at hl 2 rfl) ?_
  refine va_get (D := G) (ci := 5) (v := .ref (qM 4)) (C := RX7) (T := TX7) (N := 13) hx hb hts fin_X7 hown hK.1 hP 0 rfl rfl 7 (by decide) (hts _ wi_678) (fun _ h9 => h9) rfl dX7_addTerm_173 ?_
  refine lv_iload hx hb dX7_addTerm_176 (lv_at hl 1 rfl) ?_
  obtain ⟨hi_6, hf⟩ := oif hf
  refine va_lald hx hb hK.1 hP 4 1 rfl rfl (inb_in hi_6) dX7_addTerm_178 ?_
  refine lv_lload hx hb dX7_addTerm_179 (lv_at hl 5 rfl) ?_
  refine lv_lmul hx hb dX7_addTerm_181 ?_
  obtain ⟨y_7, hq, hf⟩ := obd hf
  have hy_7 : ((gM_down zM y_2.toNatClampNeg) * x7) = y_7 := Option.some.inj hq
  rw [hy_7]
  refine lv_lstore (lv' := [(16, .long y_7), (14, .long y_5), (13, .int y_2), (0, .ref (qM 0)), (1, .int x1), (4, .int x4), (7, .long x7), (9, .long x9), (11, .int x11), (12, .int x12)]) hx hb dX7_addTerm_182 hl (by decide) rfl (fun ls hl => ?_)
  refine lv_lload hx hb dX7_addTerm_184 (lv_at hl 1 rfl) ?_
  refine lv_lload hx hb dX7_addTerm_186 (lv_at hl 0 rfl) ?_
  obtain ⟨r_8, hr_8, hf⟩ := obd hf
  refine cRlS (As := [.long y_5, .long y_7]) (rest := []) ⟨hx, hb, hml, hown, hts⟩ (m_X7_gcd l G cA y_5 y_7 r_8 hr_8) (cw_X7_gcd hts wi_769 ⟨Nat.le_of_ble_eq_true rfl, Nat.le_of_ble_eq_true rfl⟩) hK va_Pnil rfl hl.1 rfl (Nat.le_of_ble_eq_true rfl) dX7_addTerm_188 ⟨Nat.zero_le _, Nat.zero_le _⟩ ?_
  refine lv_lstore (lv' := [(18, .long r_8), (16, .long y_7), (14, .long y_5), (13, .int y_2), (0, .ref (qM 0)), (1, .int x1), (4, .int x4), (7, .long x7), (9, .long x9), (11, .int x11), (12, .int x12)]) hx hb dX7_addTerm_191 hl (by decide) rfl (fun ls hl => ?_)
  refine lv_aload_n hx hb dX7_addTerm_193 rfl (lv_at hl 4 rfl) ?_
  refine va_get (D := G) (ci := 5) (v := .ref (qM 3)) (C := RX7) (T := TX7) (N := 13) hx hb hts fin_X7 hown hK.1 hP 0 rfl rfl 6 (by decide) (hts _ wi_677) (fun _ h9 => h9) rfl dX7_addTerm_194 ?_
  refine lv_iload hx hb dX7_addTerm_197 (lv_at hl 3 rfl) ?_
  refine lv_lload hx hb dX7_addTerm_199 (lv_at hl 2 rfl) ?_
  refine lv_lload hx hb dX7_addTerm_201 (lv_at hl 0 rfl) ?_
  obtain ⟨hn_9, hf⟩ := oif hf
  refine lv_ldiv hx hb dX7_addTerm_203 hn_9 ?_
  obtain ⟨hi_10, hf⟩ := oif hf
  refine va_last hx hb hK.1 hP hD hS 3 1 rfl rfl (inb_in hi_10) dX7_addTerm_204 (fun H locs hP hD hS => ?_)
  have hP : va_P G vwCl ((wMd cA qM (uM_up zM (vp_updL (gM_up zM) y_2.toNatClampNeg (y_5 / r_8))))) H := hP
  have hD : va_D (adr W9) ((wMd cA qM (uM_up zM (vp_updL (gM_up zM) y_2.toNatClampNeg (y_5 / r_8))))) := hD
  refine lv_aload_n hx hb dX7_addTerm_205 rfl (lv_at hl 4 rfl) ?_
  refine va_get (D := G) (ci := 5) (v := .ref (qM 4)) (C := RX7) (T := TX7) (N := 13) hx hb hts fin_X7 hown hK.1 hP 0 rfl rfl 7 (by decide) (hts _ wi_678) (fun _ h9 => h9) rfl dX7_addTerm_206 ?_
  refine lv_iload hx hb dX7_addTerm_209 (lv_at hl 3 rfl) ?_
  refine lv_lload hx hb dX7_addTerm_211 (lv_at hl 1 rfl) ?_
  refine lv_lload hx hb dX7_addTerm_213 (lv_at hl 0 rfl) ?_
  obtain ⟨hn_11, hf⟩ := oif hf
  refine lv_ldiv hx hb dX7_addTerm_215 hn_11 ?_
  obtain ⟨hi_12, hf⟩ := oif hf
  refine va_last hx hb hK.1 hP hD hS 4 1 rfl rfl (inb_in hi_12) dX7_addTerm_216 (fun H locs hP hD hS => ?_)
  have hP : va_P G vwCl ((wMd cA qM (uM_down (uM_up zM (vp_updL (gM_up zM) y_2.toNatClampNeg (y_5 / r_8))) (vp_updL (gM_down (uM_up zM (vp_updL (gM_up zM) y_2.toNatClampNeg (y_5 / r_8)))) y_2.toNatClampNeg (y_7 / r_8))))) H := hP
  have hD : va_D (adr W9) ((wMd cA qM (uM_down (uM_up zM (vp_updL (gM_up zM) y_2.toNatClampNeg (y_5 / r_8))) (vp_updL (gM_down (uM_up zM (vp_updL (gM_up zM) y_2.toNatClampNeg (y_5 / r_8)))) y_2.toNatClampNeg (y_7 / r_8))))) := hD
  cases hf
  exact W.vret hx hb hr (fun t ht hW => ⟨⟨(), rfl, trivial, toT ht hP⟩, hS.F ht⟩) hS.2.2 dX7_addTerm_217 hlocks
def f_X7_addTerm_119 (zM : MdS) : Option (MdS) := some (uM_isFull zM (1 : Int32))
set_option maxHeartbeats 4000000 in
set_option maxRecDepth 100000 in
theorem b_X7_addTerm_119 {p : Program} {l : Launch} {e : Env} {s : State} {m : MethodId} {args : Array Value} {below : List Frame} {meth : Method} {c : Code} {G : va_G} {cA : Nat → ClassId} {W9 : va_W} (qM : Nat → Nat) (C0 : Amb p s m args meth c cX7_addTerm RX7 20 none G cA (adr W9) []) {res : MdS} : ∀ (zM : MdS) (H : Heap) (locs : List Loc) (ls : Array Slot), va_P G vwCl ((wMd cA qM zM)) H → va_D (adr W9) ((wMd cA qM zM)) → va_S (adr W9) s.heap H locs → lv_has ls 20 [(0, .ref (qM 0))] → f_X7_addTerm_119 zM = some res → W p l e rm_X7_addTerm s m args below meth c H locs 0 0 (MQ below (qWv G W9 ((wMd cA qM res))) args s 0 0 (adr W9)) (F0 m 119 ls []) := by
  obtain ⟨hx, hb, hr, hml, hown, hts, hlocks, hK, hR, hRA⟩ := id C0
  intro zM H locs ls hP hD hS hl hf
  unfold f_X7_addTerm_119 at hf
  refine lv_aload_n hx hb dX7_addTerm_119 rfl (lv_at hl 0 rfl) ?_
  refine lv_iconst (v := 1) hx hb dX7_addTerm_120 (by decide) ?_
  refine va_put (D := G) (ci := 5) (v := .int (1 : Int32)) (ty := .boolean) (C := RX7) (T := TX7) (N := 13) hx hb hts fin_X7 tyX7 tyX7_ok nmX7 hown hK.1 hP hD hS 0 rfl rfl 8 (by decide) (hts _ wi_679) (fun _ h9 => h9) rfl (by decide +kernel) (by decide) (by decide) (Nat.le_of_ble_eq_true rfl) dX7_addTerm_121 (fun H locs hP hD hS => ?_)
  have hP : va_P G vwCl ((wMd cA qM (uM_isFull zM (1 : Int32)))) H := hP
  have hD : va_D (adr W9) ((wMd cA qM (uM_isFull zM (1 : Int32)))) := hD
  cases hf
  exact W.vret hx hb hr (fun t ht hW => ⟨⟨(), rfl, trivial, toT ht hP⟩, hS.F ht⟩) hS.2.2 dX7_addTerm_124 hlocks
def f_X7_addTerm_99 (zM : MdS) (x1 : Int32) (x4 : Int32) (x7 : Int64) (x9 : Int64) (x11 : Int32) (x12 : Int32) : Option (MdS) := if x11 ≤ (1 : Int32) then f_X7_addTerm_125  zM x1 x4 x7 x9 x11 x12 else if (9 : Int32) < x12 then f_X7_addTerm_119  zM else if (-9 : Int32) ≤ x12 then f_X7_addTerm_125  zM x1 x4 x7 x9 x11 x12 else f_X7_addTerm_119  zM
set_option maxHeartbeats 4000000 in
set_option maxRecDepth 100000 in
theorem b_X7_addTerm_99 {p : Program} {l : Launch} {e : Env} {s : State} {m : MethodId} {args : Array Value} {below : List Frame} {meth : Method} {c : Code} {G : va_G} {cA : Nat → ClassId} {W9 : va_W} (qM : Nat → Nat) (C0 : Amb p s m args meth c cX7_addTerm RX7 20 none G cA (adr W9) []) {res : MdS} : ∀ (zM : MdS) (x1 : Int32) (x4 : Int32) (x7 : Int64) (x9 : Int64) (x11 : Int32) (x12 : Int32) (H : Heap) (locs : List Loc) (ls : Array Slot), va_P G vwCl ((wMd cA qM zM)) H → va_D (adr W9) ((wMd cA qM zM)) → va_S (adr W9) s.heap H locs → lv_has ls 20 [(0, .ref (qM 0)), (1, .int x1), (4, .int x4), (7, .long x7), (9, .long x9), (11, .int x11), (12, .int x12)] → f_X7_addTerm_99 zM x1 x4 x7 x9 x11 x12 = some res → W p l e rm_X7_addTerm s m args below meth c H locs 0 0 (MQ below (qWv G W9 ((wMd cA qM res))) args s 0 0 (adr W9)) (F0 m 99 ls []) := by
  obtain ⟨hx, hb, hr, hml, hown, hts, hlocks, hK, hR, hRA⟩ := id C0
  intro zM x1 x4 x7 x9 x11 x12 H locs ls hP hD hS hl hf
  unfold f_X7_addTerm_99 at hf
  refine lv_iload hx hb dX7_addTerm_99 (lv_at hl 5 rfl) ?_
  refine lv_iconst (v := 1) hx hb dX7_addTerm_101 (by decide) ?_
  refine lv_icmp_le (tgt := 125) hx hb dX7_addTerm_102 (by decide) (fun c_1 => ?_) (fun c_1 => ?_)
  · rw [if_pos (c_1)] at hf
    exact b_X7_addTerm_125 qM   C0  zM x1 x4 x7 x9 x11 x12 H locs ls hP hD hS (lv_sub hl [0, 1, 2, 3, 4, 5, 6] rfl) hf
  · rw [if_neg (c_1)] at hf
    refine lv_iload hx hb dX7_addTerm_105 (lv_at hl 6 rfl) ?_
    refine lv_bipush (v := (9 : Int32)) hx hb dX7_addTerm_107 (by decide) ?_
    refine lv_icmp_gt (tgt := 119) hx hb dX7_addTerm_109 (by decide) (fun c_2 => ?_) (fun c_2 => ?_)
    · rw [if_pos (c_2)] at hf
      exact b_X7_addTerm_119 qM   C0  zM H locs ls hP hD hS (lv_sub hl [0] rfl) hf
    · rw [if_neg (c_2)] at hf
      refine lv_iload hx hb dX7_addTerm_112 (lv_at hl 6 rfl) ?_
      refine lv_bipush (v := (-9 : Int32)) hx hb dX7_addTerm_114 (by decide) ?_
      refine lv_icmp_ge (tgt := 125) hx hb dX7_addTerm_116 (by decide) (fun c_3 => ?_) (fun c_3 => ?_)
      · rw [if_pos (c_3)] at hf
        exact b_X7_addTerm_125 qM   C0  zM x1 x4 x7 x9 x11 x12 H locs ls hP hD hS (lv_sub hl [0, 1, 2, 3, 4, 5, 6] rfl) hf
      · rw [if_neg (c_3)] at hf
        exact b_X7_addTerm_119 qM   C0  zM H locs ls hP hD hS (lv_sub hl [0] rfl) hf
def f_X7_addTerm_64 (zM : MdS) (x1 : Int32) (x4 : Int32) (x7 : Int64) (x9 : Int64) (x11 : Int32) (x12 : Int32) : Option (MdS) := if ¬ x9 = (0 : Int64) then if x4 < (-12 : Int32) then f_X7_addTerm_119  zM else if (12 : Int32) < x4 then f_X7_addTerm_119  zM else if ¬ x11 = (1 : Int32) then f_X7_addTerm_99  zM x1 x4 x7 x9 x11 x12 else if (9 : Int32) < x12 then f_X7_addTerm_119  zM else f_X7_addTerm_99  zM x1 x4 x7 x9 x11 x12 else some zM
set_option maxHeartbeats 4000000 in
set_option maxRecDepth 100000 in
theorem b_X7_addTerm_64 {p : Program} {l : Launch} {e : Env} {s : State} {m : MethodId} {args : Array Value} {below : List Frame} {meth : Method} {c : Code} {G : va_G} {cA : Nat → ClassId} {W9 : va_W} (qM : Nat → Nat) (C0 : Amb p s m args meth c cX7_addTerm RX7 20 none G cA (adr W9) []) {res : MdS} : ∀ (zM : MdS) (x1 : Int32) (x4 : Int32) (x7 : Int64) (x9 : Int64) (x11 : Int32) (x12 : Int32) (H : Heap) (locs : List Loc) (ls : Array Slot), va_P G vwCl ((wMd cA qM zM)) H → va_D (adr W9) ((wMd cA qM zM)) → va_S (adr W9) s.heap H locs → lv_has ls 20 [(0, .ref (qM 0)), (1, .int x1), (4, .int x4), (7, .long x7), (9, .long x9), (11, .int x11), (12, .int x12)] → f_X7_addTerm_64 zM x1 x4 x7 x9 x11 x12 = some res → W p l e rm_X7_addTerm s m args below meth c H locs 0 0 (MQ below (qWv G W9 ((wMd cA qM res))) args s 0 0 (adr W9)) (F0 m 64 ls []) := by
  obtain ⟨hx, hb, hr, hml, hown, hts, hlocks, hK, hR, hRA⟩ := id C0
  intro zM x1 x4 x7 x9 x11 x12 H locs ls hP hD hS hl hf
  unfold f_X7_addTerm_64 at hf
  refine lv_lload hx hb dX7_addTerm_64 (lv_at hl 4 rfl) ?_
  refine lv_lconst (v := (0 : Int64)) hx hb dX7_addTerm_66 (by decide) ?_
  refine W.lcmp hx hb dX7_addTerm_67 ?_
  refine lv_if_ne (tgt := 72) hx hb dX7_addTerm_68 (by decide) (fun c_1 => ?_) (fun c_1 => ?_)
  · rw [if_pos (fun h => c_1 ((lg_cmp_eq _ _).mpr h))] at hf
    refine lv_iload hx hb dX7_addTerm_72 (lv_at hl 2 rfl) ?_
    refine lv_bipush (v := (-12 : Int32)) hx hb dX7_addTerm_74 (by decide) ?_
    refine lv_icmp_lt (tgt := 119) hx hb dX7_addTerm_76 (by decide) (fun c_2 => ?_) (fun c_2 => ?_)
    · rw [if_pos (c_2)] at hf
      exact b_X7_addTerm_119 qM   C0  zM H locs ls hP hD hS (lv_sub hl [0] rfl) hf
    · rw [if_neg (c_2)] at hf
      refine lv_iload hx hb dX7_addTerm_79 (lv_at hl 2 rfl) ?_
      refine lv_bipush (v := (12 : Int32)) hx hb dX7_addTerm_81 (by decide) ?_
      refine lv_icmp_gt (tgt := 119) hx hb dX7_addTerm_83 (by decide) (fun c_3 => ?_) (fun c_3 => ?_)
      · rw [if_pos (c_3)] at hf
        exact b_X7_addTerm_119 qM   C0  zM H locs ls hP hD hS (lv_sub hl [0] rfl) hf
      · rw [if_neg (c_3)] at hf
        refine lv_iload hx hb dX7_addTerm_86 (lv_at hl 5 rfl) ?_
        refine lv_iconst (v := 1) hx hb dX7_addTerm_88 (by decide) ?_
        refine lv_icmp_ne (tgt := 99) hx hb dX7_addTerm_89 (by decide) (fun c_4 => ?_) (fun c_4 => ?_)
        · rw [if_pos (c_4)] at hf
          exact b_X7_addTerm_99 qM   C0  zM x1 x4 x7 x9 x11 x12 H locs ls hP hD hS (lv_sub hl [0, 1, 2, 3, 4, 5, 6] rfl) hf
        · rw [if_neg (not_not_intro c_4)] at hf
          refine lv_iload hx hb dX7_addTerm_92 (lv_at hl 6 rfl) ?_
          refine lv_bipush (v := (9 : Int32)) hx hb dX7_addTerm_94 (by decide) ?_
          refine lv_icmp_gt (tgt := 119) hx hb dX7_addTerm_96 (by decide) (fun c_5 => ?_) (fun c_5 => ?_)
          · rw [if_pos (c_5)] at hf
            exact b_X7_addTerm_119 qM   C0  zM H locs ls hP hD hS (lv_sub hl [0] rfl) hf
          · rw [if_neg (c_5)] at hf
            exact b_X7_addTerm_99 qM   C0  zM x1 x4 x7 x9 x11 x12 H locs ls hP hD hS (lv_sub hl [0, 1, 2, 3, 4, 5, 6] rfl) hf
  · rw [if_neg (fun h => h ((lg_cmp_eq _ _).mp c_1))] at hf
    cases hf
    exact W.vret hx hb hr (fun t ht hW => ⟨⟨(), rfl, trivial, toT ht hP⟩, hS.F ht⟩) hS.2.2 dX7_addTerm_71 hlocks
def f_X7_addTerm_56 (zM : MdS) (x1 : Int32) (x4 : Int32) (x7 : Int64) (v0 : Int64) : Option (MdS) := f_X7_addTerm_64  zM x1 x4 x7 v0 (0 : Int32) (0 : Int32)
set_option maxHeartbeats 4000000 in
set_option maxRecDepth 100000 in
theorem b_X7_addTerm_56 {p : Program} {l : Launch} {e : Env} {s : State} {m : MethodId} {args : Array Value} {below : List Frame} {meth : Method} {c : Code} {G : va_G} {cA : Nat → ClassId} {W9 : va_W} (qM : Nat → Nat) (C0 : Amb p s m args meth c cX7_addTerm RX7 20 none G cA (adr W9) []) {res : MdS} : ∀ (zM : MdS) (x1 : Int32) (x4 : Int32) (x7 : Int64) (v0 : Int64) (H : Heap) (locs : List Loc) (ls : Array Slot), va_P G vwCl ((wMd cA qM zM)) H → va_D (adr W9) ((wMd cA qM zM)) → va_S (adr W9) s.heap H locs → lv_has ls 20 [(0, .ref (qM 0)), (1, .int x1), (4, .int x4), (7, .long x7)] → f_X7_addTerm_56 zM x1 x4 x7 v0 = some res → W p l e rm_X7_addTerm s m args below meth c H locs 0 0 (MQ below (qWv G W9 ((wMd cA qM res))) args s 0 0 (adr W9)) (F0 m 56 ls [.long v0]) := by
  obtain ⟨hx, hb, hr, hml, hown, hts, hlocks, hK, hR, hRA⟩ := id C0
  intro zM x1 x4 x7 v0 H locs ls hP hD hS hl hf
  unfold f_X7_addTerm_56 at hf
  refine lv_lstore (lv' := [(9, .long v0), (0, .ref (qM 0)), (1, .int x1), (4, .int x4), (7, .long x7)]) hx hb dX7_addTerm_56 hl (by decide) rfl (fun ls hl => ?_)
  refine lv_iconst (v := 0) hx hb dX7_addTerm_58 (by decide) ?_
  refine lv_istore (lv' := [(11, .int (0 : Int32)), (9, .long v0), (0, .ref (qM 0)), (1, .int x1), (4, .int x4), (7, .long x7)]) hx hb dX7_addTerm_59 hl (by decide) rfl (fun ls hl => ?_)
  refine lv_iconst (v := 0) hx hb dX7_addTerm_61 (by decide) ?_
  refine lv_istore (lv' := [(12, .int (0 : Int32)), (11, .int (0 : Int32)), (9, .long v0), (0, .ref (qM 0)), (1, .int x1), (4, .int x4), (7, .long x7)]) hx hb dX7_addTerm_62 hl (by decide) rfl (fun ls hl => ?_)
  exact b_X7_addTerm_64 qM   C0  zM x1 x4 x7 v0 (0 : Int32) (0 : Int32) H locs ls hP hD hS (lv_sub hl [3, 4, 5, 6, 2, 1, 0] rfl) hf
def f_X7_addTerm_37 (zM : MdS) (x1 : Int32) (x2 : Int32) (x3 : Int32) (x4 : Int32) (x7 : Int64) (x9 : Int64) (x11 : Int32) (x12 : Int32) : Option (MdS) := if x2 ≤ 0 then f_X7_addTerm_64  zM x1 x4 x7 x9 x11 x12 else if ¬ x3 = 0 then f_X7_addTerm_64  zM x1 x4 x7 x9 x11 x12 else if ¬ x2 = (3 : Int32) then f_X7_addTerm_56  zM x1 x4 x7 x9 else f_X7_addTerm_56  zM x1 x4 x7 (0 : Int64)
set_option maxHeartbeats 4000000 in
set_option maxRecDepth 100000 in
theorem b_X7_addTerm_37 {p : Program} {l : Launch} {e : Env} {s : State} {m : MethodId} {args : Array Value} {below : List Frame} {meth : Method} {c : Code} {G : va_G} {cA : Nat → ClassId} {W9 : va_W} (qM : Nat → Nat) (C0 : Amb p s m args meth c cX7_addTerm RX7 20 none G cA (adr W9) []) {res : MdS} : ∀ (zM : MdS) (x1 : Int32) (x2 : Int32) (x3 : Int32) (x4 : Int32) (x7 : Int64) (x9 : Int64) (x11 : Int32) (x12 : Int32) (H : Heap) (locs : List Loc) (ls : Array Slot), va_P G vwCl ((wMd cA qM zM)) H → va_D (adr W9) ((wMd cA qM zM)) → va_S (adr W9) s.heap H locs → lv_has ls 20 [(0, .ref (qM 0)), (1, .int x1), (2, .int x2), (3, .int x3), (4, .int x4), (7, .long x7), (9, .long x9), (11, .int x11), (12, .int x12)] → f_X7_addTerm_37 zM x1 x2 x3 x4 x7 x9 x11 x12 = some res → W p l e rm_X7_addTerm s m args below meth c H locs 0 0 (MQ below (qWv G W9 ((wMd cA qM res))) args s 0 0 (adr W9)) (F0 m 37 ls []) := by
  obtain ⟨hx, hb, hr, hml, hown, hts, hlocks, hK, hR, hRA⟩ := id C0
  intro zM x1 x2 x3 x4 x7 x9 x11 x12 H locs ls hP hD hS hl hf
  unfold f_X7_addTerm_37 at hf
  refine lv_iload_n hx hb dX7_addTerm_37 rfl (lv_at hl 2 rfl) ?_
  refine lv_if_le (tgt := 64) hx hb dX7_addTerm_38 (by decide) (fun c_1 => ?_) (fun c_1 => ?_)
  · rw [if_pos (c_1)] at hf
    exact b_X7_addTerm_64 qM   C0  zM x1 x4 x7 x9 x11 x12 H locs ls hP hD hS (lv_sub hl [0, 1, 4, 5, 6, 7, 8] rfl) hf
  · rw [if_neg (c_1)] at hf
    refine lv_iload_n hx hb dX7_addTerm_41 rfl (lv_at hl 3 rfl) ?_
    refine lv_if_ne (tgt := 64) hx hb dX7_addTerm_42 (by decide) (fun c_2 => ?_) (fun c_2 => ?_)
    · rw [if_pos (c_2)] at hf
      exact b_X7_addTerm_64 qM   C0  zM x1 x4 x7 x9 x11 x12 H locs ls hP hD hS (lv_sub hl [0, 1, 4, 5, 6, 7, 8] rfl) hf
    · rw [if_neg (not_not_intro c_2)] at hf
      refine lv_iload_n hx hb dX7_addTerm_45 rfl (lv_at hl 2 rfl) ?_
      refine lv_iconst (v := 3) hx hb dX7_addTerm_46 (by decide) ?_
      refine lv_icmp_ne (tgt := 54) hx hb dX7_addTerm_47 (by decide) (fun c_3 => ?_) (fun c_3 => ?_)
      · rw [if_pos (c_3)] at hf
        refine lv_lload hx hb dX7_addTerm_54 (lv_at hl 6 rfl) ?_
        exact b_X7_addTerm_56 qM   C0  zM x1 x4 x7 x9 H locs ls hP hD hS (lv_sub hl [0, 1, 4, 5] rfl) hf
      · rw [if_neg (not_not_intro c_3)] at hf
        refine lv_lconst (v := (0 : Int64)) hx hb dX7_addTerm_50 (by decide) ?_
        refine lv_goto (tgt := 56) hx hb dX7_addTerm_51 (by decide) ?_
        exact b_X7_addTerm_56 qM   C0  zM x1 x4 x7 (0 : Int64) H locs ls hP hD hS (lv_sub hl [0, 1, 4, 5] rfl) hf
def f_X7_addTerm_24 (zM : MdS) (x1 : Int32) (x2 : Int32) (x3 : Int32) (x4 : Int32) (x7 : Int64) (x9 : Int64) (x11 : Int32) (x12 : Int32) : Option (MdS) := if x2 ≤ (2 : Int32) then f_X7_addTerm_37  zM x1 x2 x3 x4 x7 x9 x11 x12 else if 0 ≤ x3 then f_X7_addTerm_37  zM x1 x2 x3 x4 x7 x9 x11 x12 else (some ((-x3))).bind fun y_3 => f_X7_addTerm_37  zM x1 x2 x3 x4 x7 x9 x11 y_3
set_option maxHeartbeats 4000000 in
set_option maxRecDepth 100000 in
theorem b_X7_addTerm_24 {p : Program} {l : Launch} {e : Env} {s : State} {m : MethodId} {args : Array Value} {below : List Frame} {meth : Method} {c : Code} {G : va_G} {cA : Nat → ClassId} {W9 : va_W} (qM : Nat → Nat) (C0 : Amb p s m args meth c cX7_addTerm RX7 20 none G cA (adr W9) []) {res : MdS} : ∀ (zM : MdS) (x1 : Int32) (x2 : Int32) (x3 : Int32) (x4 : Int32) (x7 : Int64) (x9 : Int64) (x11 : Int32) (x12 : Int32) (H : Heap) (locs : List Loc) (ls : Array Slot), va_P G vwCl ((wMd cA qM zM)) H → va_D (adr W9) ((wMd cA qM zM)) → va_S (adr W9) s.heap H locs → lv_has ls 20 [(0, .ref (qM 0)), (1, .int x1), (2, .int x2), (3, .int x3), (4, .int x4), (7, .long x7), (9, .long x9), (11, .int x11), (12, .int x12)] → f_X7_addTerm_24 zM x1 x2 x3 x4 x7 x9 x11 x12 = some res → W p l e rm_X7_addTerm s m args below meth c H locs 0 0 (MQ below (qWv G W9 ((wMd cA qM res))) args s 0 0 (adr W9)) (F0 m 24 ls []) := by
  obtain ⟨hx, hb, hr, hml, hown, hts, hlocks, hK, hR, hRA⟩ := id C0
  intro zM x1 x2 x3 x4 x7 x9 x11 x12 H locs ls hP hD hS hl hf
  unfold f_X7_addTerm_24 at hf
  refine lv_iload_n hx hb dX7_addTerm_24 rfl (lv_at hl 2 rfl) ?_
  refine lv_iconst (v := 2) hx hb dX7_addTerm_25 (by decide) ?_
  refine lv_icmp_le (tgt := 37) hx hb dX7_addTerm_26 (by decide) (fun c_1 => ?_) (fun c_1 => ?_)
  · rw [if_pos (c_1)] at hf
    exact b_X7_addTerm_37 qM   C0  zM x1 x2 x3 x4 x7 x9 x11 x12 H locs ls hP hD hS (lv_sub hl [0, 1, 2, 3, 4, 5, 6, 7, 8] rfl) hf
  · rw [if_neg (c_1)] at hf
    refine lv_iload_n hx hb dX7_addTerm_29 rfl (lv_at hl 3 rfl) ?_
    refine lv_if_ge (tgt := 37) hx hb dX7_addTerm_30 (by decide) (fun c_2 => ?_) (fun c_2 => ?_)
    · rw [if_pos (c_2)] at hf
      exact b_X7_addTerm_37 qM   C0  zM x1 x2 x3 x4 x7 x9 x11 x12 H locs ls hP hD hS (lv_sub hl [0, 1, 2, 3, 4, 5, 6, 7, 8] rfl) hf
    · rw [if_neg (c_2)] at hf
      refine lv_iload_n hx hb dX7_addTerm_33 rfl (lv_at hl 3 rfl) ?_
      refine lv_ineg hx hb dX7_addTerm_34 ?_
      obtain ⟨y_3, hq, hf⟩ := obd hf
      have hy_3 : (-x3) = y_3 := Option.some.inj hq
      rw [hy_3]
      refine lv_istore (lv' := [(12, .int y_3), (0, .ref (qM 0)), (1, .int x1), (2, .int x2), (3, .int x3), (4, .int x4), (7, .long x7), (9, .long x9), (11, .int x11)]) hx hb dX7_addTerm_35 hl (by decide) rfl (fun ls hl => ?_)
      exact b_X7_addTerm_37 qM   C0  zM x1 x2 x3 x4 x7 x9 x11 y_3 H locs ls hP hD hS (lv_sub hl [1, 2, 3, 4, 5, 6, 7, 8, 0] rfl) hf
def f_X7_addTerm (zM : MdS) (a1 : Int32) (a2 : Int32) (a3 : Int32) (a4 : Int32) (a5 : Int64) (a7 : Int64) : Option (MdS) := if ¬ a2 = (3 : Int32) then f_X7_addTerm_24  zM a1 a2 a3 a4 a7 a5 a2 a3 else if 0 ≤ a3 then f_X7_addTerm_24  zM a1 a2 a3 a4 a7 a5 a2 a3 else (some ((-a5))).bind fun y_3 => f_X7_addTerm_24  zM a1 a2 a3 a4 a7 y_3 a2 a3
set_option maxHeartbeats 4000000 in
set_option maxRecDepth 100000 in
theorem b_X7_addTerm_0 {p : Program} {l : Launch} {e : Env} {s : State} {m : MethodId} {args : Array Value} {below : List Frame} {meth : Method} {c : Code} {G : va_G} {cA : Nat → ClassId} {W9 : va_W} (qM : Nat → Nat) (C0 : Amb p s m args meth c cX7_addTerm RX7 20 none G cA (adr W9) []) {res : MdS} : ∀ (zM : MdS) (a1 : Int32) (a2 : Int32) (a3 : Int32) (a4 : Int32) (a5 : Int64) (a7 : Int64) (H : Heap) (locs : List Loc) (ls : Array Slot), va_P G vwCl ((wMd cA qM zM)) H → va_D (adr W9) ((wMd cA qM zM)) → va_S (adr W9) s.heap H locs → lv_has ls 20 [(0, .ref (qM 0)), (1, .int a1), (2, .int a2), (3, .int a3), (4, .int a4), (5, .long a5), (7, .long a7)] → f_X7_addTerm zM a1 a2 a3 a4 a5 a7 = some res → W p l e rm_X7_addTerm s m args below meth c H locs 0 0 (MQ below (qWv G W9 ((wMd cA qM res))) args s 0 0 (adr W9)) (F0 m 0 ls []) := by
  obtain ⟨hx, hb, hr, hml, hown, hts, hlocks, hK, hR, hRA⟩ := id C0
  intro zM a1 a2 a3 a4 a5 a7 H locs ls hP hD hS hl hf
  unfold f_X7_addTerm at hf
  refine lv_lload hx hb dX7_addTerm_0 (lv_at hl 5 rfl) ?_
  refine lv_lstore (lv' := [(9, .long a5), (0, .ref (qM 0)), (1, .int a1), (2, .int a2), (3, .int a3), (4, .int a4), (5, .long a5), (7, .long a7)]) hx hb dX7_addTerm_2 hl (by decide) rfl (fun ls hl => ?_)
  refine lv_iload_n hx hb dX7_addTerm_4 rfl (lv_at hl 3 rfl) ?_
  refine lv_istore (lv' := [(11, .int a2), (9, .long a5), (0, .ref (qM 0)), (1, .int a1), (2, .int a2), (3, .int a3), (4, .int a4), (5, .long a5), (7, .long a7)]) hx hb dX7_addTerm_5 hl (by decide) rfl (fun ls hl => ?_)
  refine lv_iload_n hx hb dX7_addTerm_7 rfl (lv_at hl 5 rfl) ?_
  refine lv_istore (lv' := [(12, .int a3), (11, .int a2), (9, .long a5), (0, .ref (qM 0)), (1, .int a1), (2, .int a2), (3, .int a3), (4, .int a4), (5, .long a5), (7, .long a7)]) hx hb dX7_addTerm_8 hl (by decide) rfl (fun ls hl => ?_)
  refine lv_iload_n hx hb dX7_addTerm_10 rfl (lv_at hl 5 rfl) ?_
  refine lv_iconst (v := 3) hx hb dX7_addTerm_11 (by decide) ?_
  refine lv_icmp_ne (tgt := 24) hx hb dX7_addTerm_12 (by decide) (fun c_1 => ?_) (fun c_1 => ?_)
  · rw [if_pos (c_1)] at hf
    exact b_X7_addTerm_24 qM   C0  zM a1 a2 a3 a4 a7 a5 a2 a3 H locs ls hP hD hS (lv_sub hl [3, 4, 5, 6, 7, 9, 2, 1, 0] rfl) hf
  · rw [if_neg (not_not_intro c_1)] at hf
    refine lv_iload_n hx hb dX7_addTerm_15 rfl (lv_at hl 6 rfl) ?_
    refine lv_if_ge (tgt := 24) hx hb dX7_addTerm_16 (by decide) (fun c_2 => ?_) (fun c_2 => ?_)
    · rw [if_pos (c_2)] at hf
      exact b_X7_addTerm_24 qM   C0  zM a1 a2 a3 a4 a7 a5 a2 a3 H locs ls hP hD hS (lv_sub hl [3, 4, 5, 6, 7, 9, 2, 1, 0] rfl) hf
    · rw [if_neg (c_2)] at hf
      refine lv_lload hx hb dX7_addTerm_19 (lv_at hl 2 rfl) ?_
      refine lv_lneg hx hb dX7_addTerm_21 ?_
      obtain ⟨y_3, hq, hf⟩ := obd hf
      have hy_3 : (-a5) = y_3 := Option.some.inj hq
      rw [hy_3]
      refine lv_lstore (lv' := [(9, .long y_3), (12, .int a3), (11, .int a2), (0, .ref (qM 0)), (1, .int a1), (2, .int a2), (3, .int a3), (4, .int a4), (5, .long a5), (7, .long a7)]) hx hb dX7_addTerm_22 hl (by decide) rfl (fun ls hl => ?_)
      exact b_X7_addTerm_24 qM   C0  zM a1 a2 a3 a4 a7 y_3 a2 a3 H locs ls hP hD hS (lv_sub hl [3, 4, 5, 6, 7, 9, 0, 2, 1] rfl) hf

set_option maxRecDepth 100000 in
theorem m_X7_addTerm (l : Launch) (G : va_G) (cA : Nat → ClassId) (qM : Nat → Nat) (zM : MdS) (a1 : Int32) (a2 : Int32) (a3 : Int32) (a4 : Int32) (a5 : Int64) (a7 : Int64) (res : MdS) (hf : f_X7_addTerm zM a1 a2 a3 a4 a5 a7 = some res) : MWv l yX7_addTerm (.code yX7_addTerm cX7_addTerm 20 none :: wd) rm_X7_addTerm G cA [.ref (qM 0), .int a1, .int a2, .int a3, .int a4, .long a5, .long a7] ((wMd cA qM zM)) [] ((wMd cA qM res)) := by
  refine Met.ofW (cc := cX7_addTerm) (maxL := 20) (ret := none) (by decide) rfl ?_
  intro p e s m args below meth c s₁ B hml hv
  obtain ⟨rfl, hK, hP, hD0, hR, hRA⟩ := hv
  have C0 : Amb p s m ([.ref (qM 0), .int a1, .int a2, .int a3, .int a4, .long a5, .long a7] : List Value).toArray meth c cX7_addTerm RX7 20 none G cA (adr ((wMd cA qM zM))) [] := ⟨B.exec, B.bytes, B.returns, hml, findClass_of_methodNamed B.named, fun w h => atoms_spec (ws := (.code yX7_addTerm cX7_addTerm 20 none :: wd)) B.pre w (List.mem_cons_of_mem _ h), B.notSynchronized, hK, hR, hRA⟩
  have hl := lv_entry ([.ref (qM 0), .int a1, .int a2, .int a3, .int a4, .long a5, .long a7]) (n := 20) (Nat.le_of_ble_eq_true rfl)
  rw [lg_entry_eq]
  generalize (lg_sl ([.ref (qM 0), .int a1, .int a2, .int a3, .int a4, .long a5, .long a7]) ++ List.replicate (20 - (lg_sl ([.ref (qM 0), .int a1, .int a2, .int a3, .int a4, .long a5, .long a7])).length) Slot.unset).toArray = ls at hl ⊢
  have hl : lv_has ls 20 [(0, .ref (qM 0)), (1, .int a1), (2, .int a2), (3, .int a3), (4, .int a4), (5, .long a5), (7, .long a7)] := hl
  exact b_X7_addTerm_0 (W9 := ((wMd cA qM zM))) qM   C0 zM a1 a2 a3 a4 a5 a7 s.heap [] ls hP (adr.self hD0) va_S.rf hl hf
theorem cw_X7_addTerm {R : Room} {s : State} {args : Array Value} {own : String} {index : Nat} (ht : ∀ w ∈ wd, w.before args s = true) (hlink : Cond.methodLink own index yX7_addTerm ∈ wd) (hR : rm_X7_addTerm.frames + 1 ≤ R.frames ∧ 8 + (20 + 11) + rm_X7_addTerm.locals ≤ R.locals) : CallW R s args own RX7 index yX7_addTerm cX7_addTerm 20 none (.code yX7_addTerm cX7_addTerm 20 none :: wd) rm_X7_addTerm 0 0 6 := cwV9 6 ht wi_775 wi_774 wi_37 wi_60 hlink (by decide +kernel) rfl rfl hR
def rm_X7_copy : Room := { frames := 0, cells := 0, slots := 0, locals := 0 }
def f_X7_copy_2  : Nat → MdS → Int32 → Int32 → Int32 → Option (MdS)
  | 0, _, _, _, _ => none
  | fu + 1, zM, x1, x2, x3 => if (1150 : Int32) ≤ x3 then some zM else if inb (((1150 : Int32) * x2) + x3) 11500 = true then if inb (((1150 : Int32) * x1) + x3) 11500 = true then if inb (((1150 : Int32) * x2) + x3) 11500 = true then if inb (((1150 : Int32) * x1) + x3) 11500 = true then f_X7_copy_2  fu (uM_down (uM_up zM (vp_updL (gM_up zM) (((1150 : Int32) * x1) + x3).toNatClampNeg (gM_up zM (((1150 : Int32) * x2) + x3).toNatClampNeg))) (vp_updL (gM_down (uM_up zM (vp_updL (gM_up zM) (((1150 : Int32) * x1) + x3).toNatClampNeg (gM_up zM (((1150 : Int32) * x2) + x3).toNatClampNeg)))) (((1150 : Int32) * x1) + x3).toNatClampNeg (gM_down (uM_up zM (vp_updL (gM_up zM) (((1150 : Int32) * x1) + x3).toNatClampNeg (gM_up zM (((1150 : Int32) * x2) + x3).toNatClampNeg))) (((1150 : Int32) * x2) + x3).toNatClampNeg))) x1 x2 (x3 + 1) else none else none else none else none
set_option maxHeartbeats 4000000 in
set_option maxRecDepth 100000 in
theorem b_X7_copy_2 {p : Program} {l : Launch} {e : Env} {s : State} {m : MethodId} {args : Array Value} {below : List Frame} {meth : Method} {c : Code} {G : va_G} {cA : Nat → ClassId} {W9 : va_W} (qM : Nat → Nat) (C0 : Amb p s m args meth c cX7_copy RX7 4 none G cA (adr W9) []) {res : MdS} : ∀ (fu : Nat) (zM : MdS) (x1 : Int32) (x2 : Int32) (x3 : Int32) (H : Heap) (locs : List Loc) (ls : Array Slot), va_P G vwCl ((wMd cA qM zM)) H → va_D (adr W9) ((wMd cA qM zM)) → va_S (adr W9) s.heap H locs → lv_has ls 4 [(0, .ref (qM 0)), (1, .int x1), (2, .int x2), (3, .int x3)] → f_X7_copy_2 fu zM x1 x2 x3 = some res → W p l e rm_X7_copy s m args below meth c H locs 0 0 (MQ below (qWv G W9 ((wMd cA qM res))) args s 0 0 (adr W9)) (F0 m 2 ls []) := by
  obtain ⟨hx, hb, hr, hml, hown, hts, hlocks, hK, hR, hRA⟩ := id C0
  intro fu
  induction fu with
  | zero =>
    intro zM x1 x2 x3 H locs ls hP hD hS hl hf
    rw [f_X7_copy_2] at hf
    cases hf
  | succ fu ih =>
    intro zM x1 x2 x3 H locs ls hP hD hS hl hf
    rw [f_X7_copy_2] at hf
    refine lv_iload_n hx hb dX7_copy_2 rfl (lv_at hl 3 rfl) ?_
    refine lv_sipush (v := (1150 : Int32)) hx hb dX7_copy_3 (by decide) ?_
    refine lv_icmp_ge (tgt := 63) hx hb dX7_copy_6 (by decide) (fun c_1 => ?_) (fun c_1 => ?_)
    · rw [if_pos (c_1)] at hf
      cases hf
      exact W.vret hx hb hr (fun t ht hW => ⟨⟨(), rfl, trivial, toT ht hP⟩, hS.F ht⟩) hS.2.2 dX7_copy_63 hlocks
    · rw [if_neg (c_1)] at hf
      refine lv_aload_n hx hb dX7_copy_9 rfl (lv_at hl 0 rfl) ?_
      refine va_get (D := G) (ci := 5) (v := .ref (qM 3)) (C := RX7) (T := TX7) (N := 13) hx hb hts fin_X7 hown hK.1 hP 0 rfl rfl 6 (by decide) (hts _ wi_677) (fun _ h9 => h9) rfl dX7_copy_10 ?_
      refine lv_sipush (v := (1150 : Int32)) hx hb dX7_copy_13 (by decide) ?_
      refine lv_iload_n hx hb dX7_copy_16 rfl (lv_at hl 1 rfl) ?_
      refine lv_imul hx hb dX7_copy_17 ?_
      refine lv_iload_n hx hb dX7_copy_18 rfl (lv_at hl 3 rfl) ?_
      refine lv_iadd hx hb dX7_copy_19 ?_
      refine lv_aload_n hx hb dX7_copy_20 rfl (lv_at hl 0 rfl) ?_
      refine va_get (D := G) (ci := 5) (v := .ref (qM 3)) (C := RX7) (T := TX7) (N := 13) hx hb hts fin_X7 hown hK.1 hP 0 rfl rfl 6 (by decide) (hts _ wi_677) (fun _ h9 => h9) rfl dX7_copy_21 ?_
      refine lv_sipush (v := (1150 : Int32)) hx hb dX7_copy_24 (by decide) ?_
      refine lv_iload_n hx hb dX7_copy_27 rfl (lv_at hl 2 rfl) ?_
      refine lv_imul hx hb dX7_copy_28 ?_
      refine lv_iload_n hx hb dX7_copy_29 rfl (lv_at hl 3 rfl) ?_
      refine lv_iadd hx hb dX7_copy_30 ?_
      obtain ⟨hi_2, hf⟩ := oif hf
      refine va_lald hx hb hK.1 hP 3 1 rfl rfl (inb_in hi_2) dX7_copy_31 ?_
      obtain ⟨hi_3, hf⟩ := oif hf
      refine va_last hx hb hK.1 hP hD hS 3 1 rfl rfl (inb_in hi_3) dX7_copy_32 (fun H locs hP hD hS => ?_)
      have hP : va_P G vwCl ((wMd cA qM (uM_up zM (vp_updL (gM_up zM) (((1150 : Int32) * x1) + x3).toNatClampNeg (gM_up zM (((1150 : Int32) * x2) + x3).toNatClampNeg))))) H := hP
      have hD : va_D (adr W9) ((wMd cA qM (uM_up zM (vp_updL (gM_up zM) (((1150 : Int32) * x1) + x3).toNatClampNeg (gM_up zM (((1150 : Int32) * x2) + x3).toNatClampNeg))))) := hD
      refine lv_aload_n hx hb dX7_copy_33 rfl (lv_at hl 0 rfl) ?_
      refine va_get (D := G) (ci := 5) (v := .ref (qM 4)) (C := RX7) (T := TX7) (N := 13) hx hb hts fin_X7 hown hK.1 hP 0 rfl rfl 7 (by decide) (hts _ wi_678) (fun _ h9 => h9) rfl dX7_copy_34 ?_
      refine lv_sipush (v := (1150 : Int32)) hx hb dX7_copy_37 (by decide) ?_
      refine lv_iload_n hx hb dX7_copy_40 rfl (lv_at hl 1 rfl) ?_
      refine lv_imul hx hb dX7_copy_41 ?_
      refine lv_iload_n hx hb dX7_copy_42 rfl (lv_at hl 3 rfl) ?_
      refine lv_iadd hx hb dX7_copy_43 ?_
      refine lv_aload_n hx hb dX7_copy_44 rfl (lv_at hl 0 rfl) ?_
      refine va_get (D := G) (ci := 5) (v := .ref (qM 4)) (C := RX7) (T := TX7) (N := 13) hx hb hts fin_X7 hown hK.1 hP 0 rfl rfl 7 (by decide) (hts _ wi_678) (fun _ h9 => h9) rfl dX7_copy_45 ?_
      refine lv_sipush (v := (1150 : Int32)) hx hb dX7_copy_48 (by decide) ?_
      refine lv_iload_n hx hb dX7_copy_51 rfl (lv_at hl 2 rfl) ?_
      refine lv_imul hx hb dX7_copy_52 ?_
      refine lv_iload_n hx hb dX7_copy_53 rfl (lv_at hl 3 rfl) ?_
      refine lv_iadd hx hb dX7_copy_54 ?_
      obtain ⟨hi_4, hf⟩ := oif hf
      refine va_lald hx hb hK.1 hP 4 1 rfl rfl (inb_in hi_4) dX7_copy_55 ?_
      obtain ⟨hi_5, hf⟩ := oif hf
      refine va_last hx hb hK.1 hP hD hS 4 1 rfl rfl (inb_in hi_5) dX7_copy_56 (fun H locs hP hD hS => ?_)
      have hP : va_P G vwCl ((wMd cA qM (uM_down (uM_up zM (vp_updL (gM_up zM) (((1150 : Int32) * x1) + x3).toNatClampNeg (gM_up zM (((1150 : Int32) * x2) + x3).toNatClampNeg))) (vp_updL (gM_down (uM_up zM (vp_updL (gM_up zM) (((1150 : Int32) * x1) + x3).toNatClampNeg (gM_up zM (((1150 : Int32) * x2) + x3).toNatClampNeg)))) (((1150 : Int32) * x1) + x3).toNatClampNeg (gM_down (uM_up zM (vp_updL (gM_up zM) (((1150 : Int32) * x1) + x3).toNatClampNeg (gM_up zM (((1150 : Int32) * x2) + x3).toNatClampNeg))) (((1150 : Int32) * x2) + x3).toNatClampNeg))))) H := hP
      have hD : va_D (adr W9) ((wMd cA qM (uM_down (uM_up zM (vp_updL (gM_up zM) (((1150 : Int32) * x1) + x3).toNatClampNeg (gM_up zM (((1150 : Int32) * x2) + x3).toNatClampNeg))) (vp_updL (gM_down (uM_up zM (vp_updL (gM_up zM) (((1150 : Int32) * x1) + x3).toNatClampNeg (gM_up zM (((1150 : Int32) * x2) + x3).toNatClampNeg)))) (((1150 : Int32) * x1) + x3).toNatClampNeg (gM_down (uM_up zM (vp_updL (gM_up zM) (((1150 : Int32) * x1) + x3).toNatClampNeg (gM_up zM (((1150 : Int32) * x2) + x3).toNatClampNeg))) (((1150 : Int32) * x2) + x3).toNatClampNeg))))) := hD
      refine lv_iinc (v := (x3 + 1)) (lv' := [(3, .int (x3 + 1)), (0, .ref (qM 0)), (1, .int x1), (2, .int x2)]) hx hb dX7_copy_57 hl (k := 3) rfl rfl (by decide) rfl (fun ls hl => ?_)
      refine lv_goto (tgt := 2) hx hb dX7_copy_60 (by decide) ?_
      exact ih (uM_down (uM_up zM (vp_updL (gM_up zM) (((1150 : Int32) * x1) + x3).toNatClampNeg (gM_up zM (((1150 : Int32) * x2) + x3).toNatClampNeg))) (vp_updL (gM_down (uM_up zM (vp_updL (gM_up zM) (((1150 : Int32) * x1) + x3).toNatClampNeg (gM_up zM (((1150 : Int32) * x2) + x3).toNatClampNeg)))) (((1150 : Int32) * x1) + x3).toNatClampNeg (gM_down (uM_up zM (vp_updL (gM_up zM) (((1150 : Int32) * x1) + x3).toNatClampNeg (gM_up zM (((1150 : Int32) * x2) + x3).toNatClampNeg))) (((1150 : Int32) * x2) + x3).toNatClampNeg))) x1 x2 (x3 + 1) H locs ls hP hD hS (lv_sub hl [1, 2, 3, 0] rfl) hf
def f_X7_copy (zM : MdS) (a1 : Int32) (a2 : Int32) : Option (MdS) := f_X7_copy_2 fuel zM a1 a2 (0 : Int32)
set_option maxHeartbeats 4000000 in
set_option maxRecDepth 100000 in
theorem b_X7_copy_0 {p : Program} {l : Launch} {e : Env} {s : State} {m : MethodId} {args : Array Value} {below : List Frame} {meth : Method} {c : Code} {G : va_G} {cA : Nat → ClassId} {W9 : va_W} (qM : Nat → Nat) (C0 : Amb p s m args meth c cX7_copy RX7 4 none G cA (adr W9) []) {res : MdS} : ∀ (zM : MdS) (a1 : Int32) (a2 : Int32) (H : Heap) (locs : List Loc) (ls : Array Slot), va_P G vwCl ((wMd cA qM zM)) H → va_D (adr W9) ((wMd cA qM zM)) → va_S (adr W9) s.heap H locs → lv_has ls 4 [(0, .ref (qM 0)), (1, .int a1), (2, .int a2)] → f_X7_copy zM a1 a2 = some res → W p l e rm_X7_copy s m args below meth c H locs 0 0 (MQ below (qWv G W9 ((wMd cA qM res))) args s 0 0 (adr W9)) (F0 m 0 ls []) := by
  obtain ⟨hx, hb, hr, hml, hown, hts, hlocks, hK, hR, hRA⟩ := id C0
  intro zM a1 a2 H locs ls hP hD hS hl hf
  unfold f_X7_copy at hf
  refine lv_iconst (v := 0) hx hb dX7_copy_0 (by decide) ?_
  refine lv_istore_n (lv' := [(3, .int (0 : Int32)), (0, .ref (qM 0)), (1, .int a1), (2, .int a2)]) hx hb dX7_copy_1 rfl hl (by decide) rfl (fun ls hl => ?_)
  exact b_X7_copy_2 qM   C0  fuel zM a1 a2 (0 : Int32) H locs ls hP hD hS (lv_sub hl [1, 2, 3, 0] rfl) hf

set_option maxRecDepth 100000 in
theorem m_X7_copy (l : Launch) (G : va_G) (cA : Nat → ClassId) (qM : Nat → Nat) (zM : MdS) (a1 : Int32) (a2 : Int32) (res : MdS) (hf : f_X7_copy zM a1 a2 = some res) : MWv l yX7_copy (.code yX7_copy cX7_copy 4 none :: wd) rm_X7_copy G cA [.ref (qM 0), .int a1, .int a2] ((wMd cA qM zM)) [] ((wMd cA qM res)) := by
  refine Met.ofW (cc := cX7_copy) (maxL := 4) (ret := none) (by decide) rfl ?_
  intro p e s m args below meth c s₁ B hml hv
  obtain ⟨rfl, hK, hP, hD0, hR, hRA⟩ := hv
  have C0 : Amb p s m ([.ref (qM 0), .int a1, .int a2] : List Value).toArray meth c cX7_copy RX7 4 none G cA (adr ((wMd cA qM zM))) [] := ⟨B.exec, B.bytes, B.returns, hml, findClass_of_methodNamed B.named, fun w h => atoms_spec (ws := (.code yX7_copy cX7_copy 4 none :: wd)) B.pre w (List.mem_cons_of_mem _ h), B.notSynchronized, hK, hR, hRA⟩
  have hl := lv_entry ([.ref (qM 0), .int a1, .int a2]) (n := 4) (Nat.le_of_ble_eq_true rfl)
  rw [lg_entry_eq]
  generalize (lg_sl ([.ref (qM 0), .int a1, .int a2]) ++ List.replicate (4 - (lg_sl ([.ref (qM 0), .int a1, .int a2])).length) Slot.unset).toArray = ls at hl ⊢
  have hl : lv_has ls 4 [(0, .ref (qM 0)), (1, .int a1), (2, .int a2)] := hl
  exact b_X7_copy_0 (W9 := ((wMd cA qM zM))) qM   C0 zM a1 a2 s.heap [] ls hP (adr.self hD0) va_S.rf hl hf
theorem cw_X7_copy {R : Room} {s : State} {args : Array Value} {own : String} {index : Nat} (ht : ∀ w ∈ wd, w.before args s = true) (hlink : Cond.methodLink own index yX7_copy ∈ wd) (hR : rm_X7_copy.frames + 1 ≤ R.frames ∧ 8 + (4 + 11) + rm_X7_copy.locals ≤ R.locals) : CallW R s args own RX7 index yX7_copy cX7_copy 4 none (.code yX7_copy cX7_copy 4 none :: wd) rm_X7_copy 0 0 2 := cwV9 2 ht wi_805 wi_804 wi_43 wi_60 hlink (by decide +kernel) rfl rfl hR
def rm_X7_finish : Room := { frames := 2, cells := 0, slots := 0, locals := 46 }
def f_X7_finish (zM : MdS) (a1 : Int32) : Option (Int32 × MdS) := (f_X7_fits zM (8 : Int32)).bind fun r_1 => if ¬ r_1 = 0 then (f_X7_copy zM a1 (8 : Int32)).bind fun r_3 => (f_X7_termsOf r_3 a1).bind fun r_4 => some (r_4, r_3) else some ((-4 : Int32), zM)
set_option maxHeartbeats 4000000 in
set_option maxRecDepth 100000 in
theorem b_X7_finish_0 {p : Program} {l : Launch} {e : Env} {s : State} {m : MethodId} {args : Array Value} {below : List Frame} {meth : Method} {c : Code} {G : va_G} {cA : Nat → ClassId} {W9 : va_W} (qM : Nat → Nat) (C0 : Amb p s m args meth c cX7_finish RX7 2 (some .int) G cA (adr W9) []) {res : Int32 × MdS} : ∀ (zM : MdS) (a1 : Int32) (H : Heap) (locs : List Loc) (ls : Array Slot), va_P G vwCl ((wMd cA qM zM)) H → va_D (adr W9) ((wMd cA qM zM)) → va_S (adr W9) s.heap H locs → lv_has ls 2 [(0, .ref (qM 0)), (1, .int a1)] → f_X7_finish zM a1 = some res → W p l e rm_X7_finish s m args below meth c H locs 0 0 (MQ below (qWi G W9 ((wMd cA qM res.2)) res.1) args s 0 0 (adr W9)) (F0 m 0 ls []) := by
  obtain ⟨hx, hb, hr, hml, hown, hts, hlocks, hK, hR, hRA⟩ := id C0
  intro zM a1 H locs ls hP hD hS hl hf
  unfold f_X7_finish at hf
  refine lv_aload_n hx hb dX7_finish_0 rfl (lv_at hl 0 rfl) ?_
  refine lv_bipush (v := (8 : Int32)) hx hb dX7_finish_1 (by decide) ?_
  obtain ⟨r_1, hr_1, hf⟩ := obd hf
  refine cRiV (As := [.int (8 : Int32)]) (rest := []) ⟨hx, hb, hml, hown, hts⟩ (m_X7_fits l G cA qM zM (8 : Int32) r_1 hr_1) (cw_X7_fits hts wi_794 ⟨Nat.le_of_ble_eq_true rfl, Nat.le_of_ble_eq_true rfl⟩) hK (pk hP [0, 1, 2, 3, 4] rfl) (va_recv hK.1 hP (ci := 5) (q0 := 0) rfl rfl) rfl hl.1 rfl (Nat.le_of_ble_eq_true rfl) dX7_finish_3 ⟨Nat.zero_le _, Nat.zero_le _⟩ ?_
  refine lv_if_ne (tgt := 12) hx hb dX7_finish_6 (by decide) (fun c_2 => ?_) (fun c_2 => ?_)
  · rw [if_pos (c_2)] at hf
    refine lv_aload_n hx hb dX7_finish_12 rfl (lv_at hl 0 rfl) ?_
    refine lv_iload_n hx hb dX7_finish_13 rfl (lv_at hl 1 rfl) ?_
    refine lv_bipush (v := (8 : Int32)) hx hb dX7_finish_14 (by decide) ?_
    obtain ⟨r_3, hr_3, hf⟩ := obd hf
    refine cWvV (As := [.int a1, .int (8 : Int32)]) (rest := []) (W1 := ((wMd cA qM r_3))) ⟨hx, hb, hml, hown, hts⟩ (m_X7_copy l G cA qM zM a1 (8 : Int32) r_3 hr_3) (cw_X7_copy hts wi_802 ⟨Nat.le_of_ble_eq_true rfl, Nat.le_of_ble_eq_true rfl⟩) hK hP hD hS [0, 1, 2, 3, 4] [5, 6, 7, 8, 9] rfl rfl rfl (by decide) rfl va_Pnil dj_nil (va_recv hK.1 hP (ci := 5) (q0 := 0) rfl rfl) rfl hl.1 rfl (Nat.le_of_ble_eq_true rfl) dX7_finish_16 ⟨Nat.zero_le _, Nat.zero_le _⟩ (fun H locs hP hD hS => ?_)
    refine lv_aload_n hx hb dX7_finish_19 rfl (lv_at hl 0 rfl) ?_
    refine lv_iload_n hx hb dX7_finish_20 rfl (lv_at hl 1 rfl) ?_
    obtain ⟨r_4, hr_4, hf⟩ := obd hf
    refine cRiV (As := [.int a1]) (rest := []) ⟨hx, hb, hml, hown, hts⟩ (m_X7_termsOf l G cA qM r_3 a1 r_4 hr_4) (cw_X7_termsOf hts wi_798 ⟨Nat.le_of_ble_eq_true rfl, Nat.le_of_ble_eq_true rfl⟩) hK (pk hP [0, 1, 2, 3, 4] rfl) (va_recv hK.1 hP (ci := 5) (q0 := 0) rfl rfl) rfl hl.1 rfl (Nat.le_of_ble_eq_true rfl) dX7_finish_21 ⟨Nat.zero_le _, Nat.zero_le _⟩ ?_
    cases hf
    exact W.iret hx hb hr (fun t ht hW => ⟨⟨_, (), rfl, rfl, toT ht hP⟩, hS.F ht⟩) hS.2.2 dX7_finish_24 hlocks
  · rw [if_neg (not_not_intro c_2)] at hf
    refine lv_bipush (v := (-4 : Int32)) hx hb dX7_finish_9 (by decide) ?_
    cases hf
    exact W.iret hx hb hr (fun t ht hW => ⟨⟨_, (), rfl, rfl, toT ht hP⟩, hS.F ht⟩) hS.2.2 dX7_finish_11 hlocks

set_option maxRecDepth 100000 in
theorem m_X7_finish (l : Launch) (G : va_G) (cA : Nat → ClassId) (qM : Nat → Nat) (zM : MdS) (a1 : Int32) (res : Int32 × MdS) (hf : f_X7_finish zM a1 = some res) : MWi l yX7_finish (.code yX7_finish cX7_finish 2 (some .int) :: wd) rm_X7_finish G cA [.ref (qM 0), .int a1] ((wMd cA qM zM)) [] ((wMd cA qM res.2)) res.1 := by
  refine Met.ofW (cc := cX7_finish) (maxL := 2) (ret := (some .int)) (by decide) rfl ?_
  intro p e s m args below meth c s₁ B hml hv
  obtain ⟨rfl, hK, hP, hD0, hR, hRA⟩ := hv
  have C0 : Amb p s m ([.ref (qM 0), .int a1] : List Value).toArray meth c cX7_finish RX7 2 (some .int) G cA (adr ((wMd cA qM zM))) [] := ⟨B.exec, B.bytes, B.returns, hml, findClass_of_methodNamed B.named, fun w h => atoms_spec (ws := (.code yX7_finish cX7_finish 2 (some .int) :: wd)) B.pre w (List.mem_cons_of_mem _ h), B.notSynchronized, hK, hR, hRA⟩
  have hl := lv_entry ([.ref (qM 0), .int a1]) (n := 2) (Nat.le_of_ble_eq_true rfl)
  rw [lg_entry_eq]
  generalize (lg_sl ([.ref (qM 0), .int a1]) ++ List.replicate (2 - (lg_sl ([.ref (qM 0), .int a1])).length) Slot.unset).toArray = ls at hl ⊢
  have hl : lv_has ls 2 [(0, .ref (qM 0)), (1, .int a1)] := hl
  exact b_X7_finish_0 (W9 := ((wMd cA qM zM))) qM   C0 zM a1 s.heap [] ls hP (adr.self hD0) va_S.rf hl hf
theorem cw_X7_finish {R : Room} {s : State} {args : Array Value} {own : String} {index : Nat} (ht : ∀ w ∈ wd, w.before args s = true) (hlink : Cond.methodLink own index yX7_finish ∈ wd) (hR : rm_X7_finish.frames + 1 ≤ R.frames ∧ 8 + (2 + 11) + rm_X7_finish.locals ≤ R.locals) : CallW R s args own RX7 index yX7_finish cX7_finish 2 (some .int) (.code yX7_finish cX7_finish 2 (some .int) :: wd) rm_X7_finish 0 0 1 := cwV9 1 ht wi_793 wi_792 wi_40 wi_60 hlink (by decide +kernel) rfl rfl hR
def rm_X7_putCell : Room := { frames := 0, cells := 0, slots := 0, locals := 0 }
def f_X7_putCell_32 (zM : MdS) : Option (MdS) := some (uM_lineSize zM ((gM_lineSize zM) + (1 : Int32)))
set_option maxHeartbeats 4000000 in
set_option maxRecDepth 100000 in
theorem b_X7_putCell_32 {p : Program} {l : Launch} {e : Env} {s : State} {m : MethodId} {args : Array Value} {below : List Frame} {meth : Method} {c : Code} {G : va_G} {cA : Nat → ClassId} {W9 : va_W} (qM : Nat → Nat) (C0 : Amb p s m args meth c cX7_putCell RX7 4 none G cA (adr W9) []) {res : MdS} : ∀ (zM : MdS) (H : Heap) (locs : List Loc) (ls : Array Slot), va_P G vwCl ((wMd cA qM zM)) H → va_D (adr W9) ((wMd cA qM zM)) → va_S (adr W9) s.heap H locs → lv_has ls 4 [(0, .ref (qM 0))] → f_X7_putCell_32 zM = some res → W p l e rm_X7_putCell s m args below meth c H locs 0 0 (MQ below (qWv G W9 ((wMd cA qM res))) args s 0 0 (adr W9)) (F0 m 32 ls []) := by
  obtain ⟨hx, hb, hr, hml, hown, hts, hlocks, hK, hR, hRA⟩ := id C0
  intro zM H locs ls hP hD hS hl hf
  unfold f_X7_putCell_32 at hf
  refine lv_aload_n hx hb dX7_putCell_32 rfl (lv_at hl 0 rfl) ?_
  refine lv_dup hx hb dX7_putCell_33 rfl ?_
  refine va_get (D := G) (ci := 5) (v := .int (gM_lineSize zM)) (C := RX7) (T := TX7) (N := 13) hx hb hts fin_X7 hown hK.1 hP 0 rfl rfl 2 (by decide) (hts _ wi_673) (fun _ h9 => h9) rfl dX7_putCell_34 ?_
  refine lv_iconst (v := 1) hx hb dX7_putCell_37 (by decide) ?_
  refine lv_iadd hx hb dX7_putCell_38 ?_
  refine va_put (D := G) (ci := 5) (v := .int ((gM_lineSize zM) + (1 : Int32))) (ty := .int) (C := RX7) (T := TX7) (N := 13) hx hb hts fin_X7 tyX7 tyX7_ok nmX7 hown hK.1 hP hD hS 0 rfl rfl 2 (by decide) (hts _ wi_673) (fun _ h9 => h9) rfl (by decide +kernel) rfl rfl (Nat.le_of_ble_eq_true rfl) dX7_putCell_39 (fun H locs hP hD hS => ?_)
  have hP : va_P G vwCl ((wMd cA qM (uM_lineSize zM ((gM_lineSize zM) + (1 : Int32))))) H := hP
  have hD : va_D (adr W9) ((wMd cA qM (uM_lineSize zM ((gM_lineSize zM) + (1 : Int32))))) := hD
  cases hf
  exact W.vret hx hb hr (fun t ht hW => ⟨⟨(), rfl, trivial, toT ht hP⟩, hS.F ht⟩) hS.2.2 dX7_putCell_42 hlocks
def f_X7_putCell (zM : MdS) (a1 : Int32) (a2 : Int32) : Option (MdS) := (some (((a1 >>> (a2 &&& 31)) &&& (255 : Int32)))).bind fun y_1 => if y_1 ≤ 0 then some zM else if (100 : Int32) ≤ (gM_lineSize zM) then f_X7_putCell_32  zM else if inb (gM_lineSize zM) 100 = true then f_X7_putCell_32  (uM_line zM (upd (gM_line zM) (gM_lineSize zM).toNatClampNeg (vp_nar .char (((y_1).toUInt32 % 65536).toInt32)))) else none
set_option maxHeartbeats 4000000 in
set_option maxRecDepth 100000 in
theorem b_X7_putCell_0 {p : Program} {l : Launch} {e : Env} {s : State} {m : MethodId} {args : Array Value} {below : List Frame} {meth : Method} {c : Code} {G : va_G} {cA : Nat → ClassId} {W9 : va_W} (qM : Nat → Nat) (C0 : Amb p s m args meth c cX7_putCell RX7 4 none G cA (adr W9) []) {res : MdS} : ∀ (zM : MdS) (a1 : Int32) (a2 : Int32) (H : Heap) (locs : List Loc) (ls : Array Slot), va_P G vwCl ((wMd cA qM zM)) H → va_D (adr W9) ((wMd cA qM zM)) → va_S (adr W9) s.heap H locs → lv_has ls 4 [(0, .ref (qM 0)), (1, .int a1), (2, .int a2)] → f_X7_putCell zM a1 a2 = some res → W p l e rm_X7_putCell s m args below meth c H locs 0 0 (MQ below (qWv G W9 ((wMd cA qM res))) args s 0 0 (adr W9)) (F0 m 0 ls []) := by
  obtain ⟨hx, hb, hr, hml, hown, hts, hlocks, hK, hR, hRA⟩ := id C0
  intro zM a1 a2 H locs ls hP hD hS hl hf
  unfold f_X7_putCell at hf
  refine lv_iload_n hx hb dX7_putCell_0 rfl (lv_at hl 1 rfl) ?_
  refine lv_iload_n hx hb dX7_putCell_1 rfl (lv_at hl 2 rfl) ?_
  refine lv_ishr hx hb dX7_putCell_2 ?_
  refine lv_sipush (v := (255 : Int32)) hx hb dX7_putCell_3 (by decide) ?_
  refine lv_iand hx hb dX7_putCell_6 ?_
  obtain ⟨y_1, hq, hf⟩ := obd hf
  have hy_1 : ((a1 >>> (a2 &&& 31)) &&& (255 : Int32)) = y_1 := Option.some.inj hq
  rw [hy_1]
  refine lv_istore_n (lv' := [(3, .int y_1), (0, .ref (qM 0)), (1, .int a1), (2, .int a2)]) hx hb dX7_putCell_7 rfl hl (by decide) rfl (fun ls hl => ?_)
  refine lv_iload_n hx hb dX7_putCell_8 rfl (lv_at hl 0 rfl) ?_
  refine lv_if_le (tgt := 42) hx hb dX7_putCell_9 (by decide) (fun c_2 => ?_) (fun c_2 => ?_)
  · rw [if_pos (c_2)] at hf
    cases hf
    exact W.vret hx hb hr (fun t ht hW => ⟨⟨(), rfl, trivial, toT ht hP⟩, hS.F ht⟩) hS.2.2 dX7_putCell_42 hlocks
  · rw [if_neg (c_2)] at hf
    refine lv_aload_n hx hb dX7_putCell_12 rfl (lv_at hl 1 rfl) ?_
    refine va_get (D := G) (ci := 5) (v := .int (gM_lineSize zM)) (C := RX7) (T := TX7) (N := 13) hx hb hts fin_X7 hown hK.1 hP 0 rfl rfl 2 (by decide) (hts _ wi_673) (fun _ h9 => h9) rfl dX7_putCell_13 ?_
    refine lv_bipush (v := (100 : Int32)) hx hb dX7_putCell_16 (by decide) ?_
    refine lv_icmp_ge (tgt := 32) hx hb dX7_putCell_18 (by decide) (fun c_3 => ?_) (fun c_3 => ?_)
    · rw [if_pos (c_3)] at hf
      exact b_X7_putCell_32 qM   C0  zM H locs ls hP hD hS (lv_sub hl [1] rfl) hf
    · rw [if_neg (c_3)] at hf
      refine lv_aload_n hx hb dX7_putCell_21 rfl (lv_at hl 1 rfl) ?_
      refine va_get (D := G) (ci := 5) (v := .ref (qM 1)) (C := RX7) (T := TX7) (N := 13) hx hb hts fin_X7 hown hK.1 hP 0 rfl rfl 1 (by decide) (hts _ wi_672) (fun _ h9 => h9) rfl dX7_putCell_22 ?_
      refine lv_aload_n hx hb dX7_putCell_25 rfl (lv_at hl 1 rfl) ?_
      refine va_get (D := G) (ci := 5) (v := .int (gM_lineSize zM)) (C := RX7) (T := TX7) (N := 13) hx hb hts fin_X7 hown hK.1 hP 0 rfl rfl 2 (by decide) (hts _ wi_673) (fun _ h9 => h9) rfl dX7_putCell_26 ?_
      refine lv_iload_n hx hb dX7_putCell_29 rfl (lv_at hl 0 rfl) ?_
      refine lv_i2c hx hb dX7_putCell_30 rfl ?_
      obtain ⟨hi_4, hf⟩ := oif hf
      refine va_cast hx hb hK.1 hP hD hS 1 2 rfl rfl (inb_in hi_4) dX7_putCell_31 (fun H locs hP hD hS => ?_)
      have hP : va_P G vwCl ((wMd cA qM (uM_line zM (upd (gM_line zM) (gM_lineSize zM).toNatClampNeg (vp_nar .char (((y_1).toUInt32 % 65536).toInt32)))))) H := hP
      have hD : va_D (adr W9) ((wMd cA qM (uM_line zM (upd (gM_line zM) (gM_lineSize zM).toNatClampNeg (vp_nar .char (((y_1).toUInt32 % 65536).toInt32)))))) := hD
      exact b_X7_putCell_32 qM   C0  (uM_line zM (upd (gM_line zM) (gM_lineSize zM).toNatClampNeg (vp_nar .char (((y_1).toUInt32 % 65536).toInt32)))) H locs ls hP hD hS (lv_sub hl [1] rfl) hf

set_option maxRecDepth 100000 in
theorem m_X7_putCell (l : Launch) (G : va_G) (cA : Nat → ClassId) (qM : Nat → Nat) (zM : MdS) (a1 : Int32) (a2 : Int32) (res : MdS) (hf : f_X7_putCell zM a1 a2 = some res) : MWv l yX7_putCell (.code yX7_putCell cX7_putCell 4 none :: wd) rm_X7_putCell G cA [.ref (qM 0), .int a1, .int a2] ((wMd cA qM zM)) [] ((wMd cA qM res)) := by
  refine Met.ofW (cc := cX7_putCell) (maxL := 4) (ret := none) (by decide) rfl ?_
  intro p e s m args below meth c s₁ B hml hv
  obtain ⟨rfl, hK, hP, hD0, hR, hRA⟩ := hv
  have C0 : Amb p s m ([.ref (qM 0), .int a1, .int a2] : List Value).toArray meth c cX7_putCell RX7 4 none G cA (adr ((wMd cA qM zM))) [] := ⟨B.exec, B.bytes, B.returns, hml, findClass_of_methodNamed B.named, fun w h => atoms_spec (ws := (.code yX7_putCell cX7_putCell 4 none :: wd)) B.pre w (List.mem_cons_of_mem _ h), B.notSynchronized, hK, hR, hRA⟩
  have hl := lv_entry ([.ref (qM 0), .int a1, .int a2]) (n := 4) (Nat.le_of_ble_eq_true rfl)
  rw [lg_entry_eq]
  generalize (lg_sl ([.ref (qM 0), .int a1, .int a2]) ++ List.replicate (4 - (lg_sl ([.ref (qM 0), .int a1, .int a2])).length) Slot.unset).toArray = ls at hl ⊢
  have hl : lv_has ls 4 [(0, .ref (qM 0)), (1, .int a1), (2, .int a2)] := hl
  exact b_X7_putCell_0 (W9 := ((wMd cA qM zM))) qM   C0 zM a1 a2 s.heap [] ls hP (adr.self hD0) va_S.rf hl hf
theorem cw_X7_putCell {R : Room} {s : State} {args : Array Value} {own : String} {index : Nat} (ht : ∀ w ∈ wd, w.before args s = true) (hlink : Cond.methodLink own index yX7_putCell ∈ wd) (hR : rm_X7_putCell.frames + 1 ≤ R.frames ∧ 8 + (4 + 11) + rm_X7_putCell.locals ≤ R.locals) : CallW R s args own RX7 index yX7_putCell cX7_putCell 4 none (.code yX7_putCell cX7_putCell 4 none :: wd) rm_X7_putCell 0 0 2 := cwV9 2 ht wi_722 wi_721 wi_28 wi_60 hlink (by decide +kernel) rfl rfl hR
def rm_X7_type : Room := { frames := 1, cells := 0, slots := 0, locals := 23 }
def f_X7_type_107 (zM : MdS) (x6 : Int32) (v1 : Int32) : Option (Int32 × MdS) := (f_X7_refused zM v1).bind fun r_1 => if r_1.1 = 0 then some ((gM_lineSize r_1.2), r_1.2) else some ((0 : Int32), (uM_lineSize r_1.2 x6))
set_option maxHeartbeats 4000000 in
set_option maxRecDepth 100000 in
theorem b_X7_type_107 {p : Program} {l : Launch} {e : Env} {s : State} {m : MethodId} {args : Array Value} {below : List Frame} {meth : Method} {c : Code} {G : va_G} {cA : Nat → ClassId} {W9 : va_W} (qM : Nat → Nat) (C0 : Amb p s m args meth c cX7_type RX7 10 (some .int) G cA (adr W9) []) {res : Int32 × MdS} : ∀ (zM : MdS) (x6 : Int32) (v1 : Int32) (H : Heap) (locs : List Loc) (ls : Array Slot), va_P G vwCl ((wMd cA qM zM)) H → va_D (adr W9) ((wMd cA qM zM)) → va_S (adr W9) s.heap H locs → lv_has ls 10 [(0, .ref (qM 0)), (6, .int x6)] → f_X7_type_107 zM x6 v1 = some res → W p l e rm_X7_type s m args below meth c H locs 0 0 (MQ below (qWi G W9 ((wMd cA qM res.2)) res.1) args s 0 0 (adr W9)) (F0 m 107 ls [.int v1, .ref (qM 0)]) := by
  obtain ⟨hx, hb, hr, hml, hown, hts, hlocks, hK, hR, hRA⟩ := id C0
  intro zM x6 v1 H locs ls hP hD hS hl hf
  unfold f_X7_type_107 at hf
  obtain ⟨r_1, hr_1, hf⟩ := obd hf
  refine cWiV (As := [.int v1]) (rest := []) (W1 := ((wMd cA qM r_1.2))) ⟨hx, hb, hml, hown, hts⟩ (m_X7_refused l G cA qM zM v1 r_1 hr_1) (cw_X7_refused hts wi_723 ⟨Nat.le_of_ble_eq_true rfl, Nat.le_of_ble_eq_true rfl⟩) hK hP hD hS [0, 1, 2, 3, 4] [5, 6, 7, 8, 9] rfl rfl rfl (by decide) rfl va_Pnil dj_nil (va_recv hK.1 hP (ci := 5) (q0 := 0) rfl rfl) rfl hl.1 rfl (Nat.le_of_ble_eq_true rfl) dX7_type_107 ⟨Nat.zero_le _, Nat.zero_le _⟩ (fun H locs hP hD hS => ?_)
  refine lv_if_eq (tgt := 121) hx hb dX7_type_110 (by decide) (fun c_2 => ?_) (fun c_2 => ?_)
  · rw [if_pos (c_2)] at hf
    refine lv_aload_n hx hb dX7_type_121 rfl (lv_at hl 0 rfl) ?_
    refine va_get (D := G) (ci := 5) (v := .int (gM_lineSize r_1.2)) (C := RX7) (T := TX7) (N := 13) hx hb hts fin_X7 hown hK.1 hP 0 rfl rfl 2 (by decide) (hts _ wi_673) (fun _ h9 => h9) rfl dX7_type_122 ?_
    cases hf
    exact W.iret hx hb hr (fun t ht hW => ⟨⟨_, (), rfl, rfl, toT ht hP⟩, hS.F ht⟩) hS.2.2 dX7_type_125 hlocks
  · rw [if_neg (c_2)] at hf
    refine lv_aload_n hx hb dX7_type_113 rfl (lv_at hl 0 rfl) ?_
    refine lv_iload hx hb dX7_type_114 (lv_at hl 1 rfl) ?_
    refine va_put (D := G) (ci := 5) (v := .int x6) (ty := .int) (C := RX7) (T := TX7) (N := 13) hx hb hts fin_X7 tyX7 tyX7_ok nmX7 hown hK.1 hP hD hS 0 rfl rfl 2 (by decide) (hts _ wi_673) (fun _ h9 => h9) rfl (by decide +kernel) rfl rfl (Nat.le_of_ble_eq_true rfl) dX7_type_116 (fun H locs hP hD hS => ?_)
    have hP : va_P G vwCl ((wMd cA qM (uM_lineSize r_1.2 x6))) H := hP
    have hD : va_D (adr W9) ((wMd cA qM (uM_lineSize r_1.2 x6))) := hD
    refine lv_iconst (v := 0) hx hb dX7_type_119 (by decide) ?_
    cases hf
    exact W.iret hx hb hr (fun t ht hW => ⟨⟨_, (), rfl, rfl, toT ht hP⟩, hS.F ht⟩) hS.2.2 dX7_type_120 hlocks
def f_X7_type_63 (kb_9 : MdS → Int32 → Int32 → Int32 → Int32 → Int32 → Int32 → Int32 → Option (Int32 × MdS)) : Nat → MdS → Int32 → Int32 → Int32 → Int32 → Int32 → Int32 → Int32 → Int32 → Int32 → Option (Int32 × MdS)
  | 0, _, _, _, _, _, _, _, _, _, _ => none
  | fu + 1, zM, x1, x2, x3, x4, x5, x6, x7, x8, x9 => if x9 < 0 then kb_9 zM x1 x2 x3 x4 x5 x6 (x7 + 1) else (f_X7_putCell zM x8 x9).bind fun r_2 => (some ((x9 - (8 : Int32)))).bind fun y_3 => f_X7_type_63 kb_9 fu r_2 x1 x2 x3 x4 x5 x6 x7 x8 y_3
set_option maxHeartbeats 4000000 in
set_option maxRecDepth 100000 in
theorem b_X7_type_63 {p : Program} {l : Launch} {e : Env} {s : State} {m : MethodId} {args : Array Value} {below : List Frame} {meth : Method} {c : Code} {G : va_G} {cA : Nat → ClassId} {W9 : va_W} (qM : Nat → Nat) (C0 : Amb p s m args meth c cX7_type RX7 10 (some .int) G cA (adr W9) []) {res : Int32 × MdS} (kb_9 : MdS → Int32 → Int32 → Int32 → Int32 → Int32 → Int32 → Int32 → Option (Int32 × MdS)) (hkb_9 : ∀ (zM : MdS) (x1 : Int32) (x2 : Int32) (x3 : Int32) (x4 : Int32) (x5 : Int32) (x6 : Int32) (x7 : Int32) (H : Heap) (locs : List Loc) (ls : Array Slot), va_P G vwCl ((wMd cA qM zM)) H → va_D (adr W9) ((wMd cA qM zM)) → va_S (adr W9) s.heap H locs → lv_has ls 10 [(0, .ref (qM 0)), (1, .int x1), (2, .int x2), (3, .int x3), (4, .int x4), (5, .int x5), (6, .int x6), (7, .int x7)] → kb_9 zM x1 x2 x3 x4 x5 x6 x7 = some res → W p l e rm_X7_type s m args below meth c H locs 0 0 (MQ below (qWi G W9 ((wMd cA qM res.2)) res.1) args s 0 0 (adr W9)) (F0 m 9 ls [])) : ∀ (fu : Nat) (zM : MdS) (x1 : Int32) (x2 : Int32) (x3 : Int32) (x4 : Int32) (x5 : Int32) (x6 : Int32) (x7 : Int32) (x8 : Int32) (x9 : Int32) (H : Heap) (locs : List Loc) (ls : Array Slot), va_P G vwCl ((wMd cA qM zM)) H → va_D (adr W9) ((wMd cA qM zM)) → va_S (adr W9) s.heap H locs → lv_has ls 10 [(0, .ref (qM 0)), (1, .int x1), (2, .int x2), (3, .int x3), (4, .int x4), (5, .int x5), (6, .int x6), (7, .int x7), (8, .int x8), (9, .int x9)] → f_X7_type_63 kb_9 fu zM x1 x2 x3 x4 x5 x6 x7 x8 x9 = some res → W p l e rm_X7_type s m args below meth c H locs 0 0 (MQ below (qWi G W9 ((wMd cA qM res.2)) res.1) args s 0 0 (adr W9)) (F0 m 63 ls []) := by
  obtain ⟨hx, hb, hr, hml, hown, hts, hlocks, hK, hR, hRA⟩ := id C0
  intro fu
  induction fu with
  | zero =>
    intro zM x1 x2 x3 x4 x5 x6 x7 x8 x9 H locs ls hP hD hS hl hf
    rw [f_X7_type_63] at hf
    cases hf
  | succ fu ih =>
    intro zM x1 x2 x3 x4 x5 x6 x7 x8 x9 H locs ls hP hD hS hl hf
    rw [f_X7_type_63] at hf
    refine lv_iload hx hb dX7_type_63 (lv_at hl 9 rfl) ?_
    refine lv_if_lt (tgt := 86) hx hb dX7_type_65 (by decide) (fun c_1 => ?_) (fun c_1 => ?_)
    · rw [if_pos (c_1)] at hf
      refine lv_iinc (v := (x7 + 1)) (lv' := [(7, .int (x7 + 1)), (0, .ref (qM 0)), (1, .int x1), (2, .int x2), (3, .int x3), (4, .int x4), (5, .int x5), (6, .int x6), (8, .int x8), (9, .int x9)]) hx hb dX7_type_86 hl (k := 7) rfl rfl (by decide) rfl (fun ls hl => ?_)
      refine lv_goto (tgt := 9) hx hb dX7_type_89 (by decide) ?_
      exact hkb_9 zM x1 x2 x3 x4 x5 x6 (x7 + 1) H locs ls hP hD hS (lv_sub hl [1, 2, 3, 4, 5, 6, 7, 0] rfl) hf
    · rw [if_neg (c_1)] at hf
      refine lv_aload_n hx hb dX7_type_68 rfl (lv_at hl 0 rfl) ?_
      refine lv_iload hx hb dX7_type_69 (lv_at hl 8 rfl) ?_
      refine lv_iload hx hb dX7_type_71 (lv_at hl 9 rfl) ?_
      obtain ⟨r_2, hr_2, hf⟩ := obd hf
      refine cWvV (As := [.int x8, .int x9]) (rest := []) (W1 := ((wMd cA qM r_2))) ⟨hx, hb, hml, hown, hts⟩ (m_X7_putCell l G cA qM zM x8 x9 r_2 hr_2) (cw_X7_putCell hts wi_719 ⟨Nat.le_of_ble_eq_true rfl, Nat.le_of_ble_eq_true rfl⟩) hK hP hD hS [0, 1, 2, 3, 4] [5, 6, 7, 8, 9] rfl rfl rfl (by decide) rfl va_Pnil dj_nil (va_recv hK.1 hP (ci := 5) (q0 := 0) rfl rfl) rfl hl.1 rfl (Nat.le_of_ble_eq_true rfl) dX7_type_73 ⟨Nat.zero_le _, Nat.zero_le _⟩ (fun H locs hP hD hS => ?_)
      refine lv_iload hx hb dX7_type_76 (lv_at hl 9 rfl) ?_
      refine lv_bipush (v := (8 : Int32)) hx hb dX7_type_78 (by decide) ?_
      refine lv_isub hx hb dX7_type_80 ?_
      obtain ⟨y_3, hq, hf⟩ := obd hf
      have hy_3 : (x9 - (8 : Int32)) = y_3 := Option.some.inj hq
      rw [hy_3]
      refine lv_istore (lv' := [(9, .int y_3), (0, .ref (qM 0)), (1, .int x1), (2, .int x2), (3, .int x3), (4, .int x4), (5, .int x5), (6, .int x6), (7, .int x7), (8, .int x8)]) hx hb dX7_type_81 hl (by decide) rfl (fun ls hl => ?_)
      refine lv_goto (tgt := 63) hx hb dX7_type_83 (by decide) ?_
      exact ih r_2 x1 x2 x3 x4 x5 x6 x7 x8 y_3 H locs ls hP hD hS (lv_sub hl [1, 2, 3, 4, 5, 6, 7, 8, 9, 0] rfl) hf
def f_X7_type_57 (kb_9 : MdS → Int32 → Int32 → Int32 → Int32 → Int32 → Int32 → Int32 → Option (Int32 × MdS)) (zM : MdS) (x1 : Int32) (x2 : Int32) (x3 : Int32) (x4 : Int32) (x5 : Int32) (x6 : Int32) (x7 : Int32) (v0 : Int32) : Option (Int32 × MdS) := f_X7_type_63 kb_9 fuel zM x1 x2 x3 x4 x5 x6 x7 v0 (24 : Int32)
set_option maxHeartbeats 4000000 in
set_option maxRecDepth 100000 in
theorem b_X7_type_57 {p : Program} {l : Launch} {e : Env} {s : State} {m : MethodId} {args : Array Value} {below : List Frame} {meth : Method} {c : Code} {G : va_G} {cA : Nat → ClassId} {W9 : va_W} (qM : Nat → Nat) (C0 : Amb p s m args meth c cX7_type RX7 10 (some .int) G cA (adr W9) []) {res : Int32 × MdS} (kb_9 : MdS → Int32 → Int32 → Int32 → Int32 → Int32 → Int32 → Int32 → Option (Int32 × MdS)) (hkb_9 : ∀ (zM : MdS) (x1 : Int32) (x2 : Int32) (x3 : Int32) (x4 : Int32) (x5 : Int32) (x6 : Int32) (x7 : Int32) (H : Heap) (locs : List Loc) (ls : Array Slot), va_P G vwCl ((wMd cA qM zM)) H → va_D (adr W9) ((wMd cA qM zM)) → va_S (adr W9) s.heap H locs → lv_has ls 10 [(0, .ref (qM 0)), (1, .int x1), (2, .int x2), (3, .int x3), (4, .int x4), (5, .int x5), (6, .int x6), (7, .int x7)] → kb_9 zM x1 x2 x3 x4 x5 x6 x7 = some res → W p l e rm_X7_type s m args below meth c H locs 0 0 (MQ below (qWi G W9 ((wMd cA qM res.2)) res.1) args s 0 0 (adr W9)) (F0 m 9 ls [])) : ∀ (zM : MdS) (x1 : Int32) (x2 : Int32) (x3 : Int32) (x4 : Int32) (x5 : Int32) (x6 : Int32) (x7 : Int32) (v0 : Int32) (H : Heap) (locs : List Loc) (ls : Array Slot), va_P G vwCl ((wMd cA qM zM)) H → va_D (adr W9) ((wMd cA qM zM)) → va_S (adr W9) s.heap H locs → lv_has ls 10 [(0, .ref (qM 0)), (1, .int x1), (2, .int x2), (3, .int x3), (4, .int x4), (5, .int x5), (6, .int x6), (7, .int x7)] → f_X7_type_57 kb_9 zM x1 x2 x3 x4 x5 x6 x7 v0 = some res → W p l e rm_X7_type s m args below meth c H locs 0 0 (MQ below (qWi G W9 ((wMd cA qM res.2)) res.1) args s 0 0 (adr W9)) (F0 m 57 ls [.int v0]) := by
  obtain ⟨hx, hb, hr, hml, hown, hts, hlocks, hK, hR, hRA⟩ := id C0
  intro zM x1 x2 x3 x4 x5 x6 x7 v0 H locs ls hP hD hS hl hf
  unfold f_X7_type_57 at hf
  refine lv_istore (lv' := [(8, .int v0), (0, .ref (qM 0)), (1, .int x1), (2, .int x2), (3, .int x3), (4, .int x4), (5, .int x5), (6, .int x6), (7, .int x7)]) hx hb dX7_type_57 hl (by decide) rfl (fun ls hl => ?_)
  refine lv_bipush (v := (24 : Int32)) hx hb dX7_type_59 (by decide) ?_
  refine lv_istore (lv' := [(9, .int (24 : Int32)), (8, .int v0), (0, .ref (qM 0)), (1, .int x1), (2, .int x2), (3, .int x3), (4, .int x4), (5, .int x5), (6, .int x6), (7, .int x7)]) hx hb dX7_type_61 hl (by decide) rfl (fun ls hl => ?_)
  exact b_X7_type_63 qM   C0 kb_9 hkb_9 fuel zM x1 x2 x3 x4 x5 x6 x7 v0 (24 : Int32) H locs ls hP hD hS (lv_sub hl [2, 3, 4, 5, 6, 7, 8, 9, 1, 0] rfl) hf
def f_X7_type_9  : Nat → MdS → Int32 → Int32 → Int32 → Int32 → Int32 → Int32 → Int32 → Option (Int32 × MdS)
  | 0, _, _, _, _, _, _, _, _ => none
  | fu + 1, zM, x1, x2, x3, x4, x5, x6, x7 => if (5 : Int32) ≤ x7 then if (gM_lineSize zM) ≤ (100 : Int32) then f_X7_type_107  zM x6 (0 : Int32) else f_X7_type_107  zM x6 (1 : Int32) else if ¬ x7 = 0 then if ¬ x7 = (1 : Int32) then if ¬ x7 = (2 : Int32) then if ¬ x7 = (3 : Int32) then f_X7_type_57 (fun zM_ x1_ x2_ x3_ x4_ x5_ x6_ x7_ => f_X7_type_9  fu zM_ x1_ x2_ x3_ x4_ x5_ x6_ x7_) zM x1 x2 x3 x4 x5 x6 x7 x5 else f_X7_type_57 (fun zM_ x1_ x2_ x3_ x4_ x5_ x6_ x7_ => f_X7_type_9  fu zM_ x1_ x2_ x3_ x4_ x5_ x6_ x7_) zM x1 x2 x3 x4 x5 x6 x7 x4 else f_X7_type_57 (fun zM_ x1_ x2_ x3_ x4_ x5_ x6_ x7_ => f_X7_type_9  fu zM_ x1_ x2_ x3_ x4_ x5_ x6_ x7_) zM x1 x2 x3 x4 x5 x6 x7 x3 else f_X7_type_57 (fun zM_ x1_ x2_ x3_ x4_ x5_ x6_ x7_ => f_X7_type_9  fu zM_ x1_ x2_ x3_ x4_ x5_ x6_ x7_) zM x1 x2 x3 x4 x5 x6 x7 x2 else f_X7_type_57 (fun zM_ x1_ x2_ x3_ x4_ x5_ x6_ x7_ => f_X7_type_9  fu zM_ x1_ x2_ x3_ x4_ x5_ x6_ x7_) zM x1 x2 x3 x4 x5 x6 x7 x1
set_option maxHeartbeats 4000000 in
set_option maxRecDepth 100000 in
theorem b_X7_type_9 {p : Program} {l : Launch} {e : Env} {s : State} {m : MethodId} {args : Array Value} {below : List Frame} {meth : Method} {c : Code} {G : va_G} {cA : Nat → ClassId} {W9 : va_W} (qM : Nat → Nat) (C0 : Amb p s m args meth c cX7_type RX7 10 (some .int) G cA (adr W9) []) {res : Int32 × MdS} : ∀ (fu : Nat) (zM : MdS) (x1 : Int32) (x2 : Int32) (x3 : Int32) (x4 : Int32) (x5 : Int32) (x6 : Int32) (x7 : Int32) (H : Heap) (locs : List Loc) (ls : Array Slot), va_P G vwCl ((wMd cA qM zM)) H → va_D (adr W9) ((wMd cA qM zM)) → va_S (adr W9) s.heap H locs → lv_has ls 10 [(0, .ref (qM 0)), (1, .int x1), (2, .int x2), (3, .int x3), (4, .int x4), (5, .int x5), (6, .int x6), (7, .int x7)] → f_X7_type_9 fu zM x1 x2 x3 x4 x5 x6 x7 = some res → W p l e rm_X7_type s m args below meth c H locs 0 0 (MQ below (qWi G W9 ((wMd cA qM res.2)) res.1) args s 0 0 (adr W9)) (F0 m 9 ls []) := by
  obtain ⟨hx, hb, hr, hml, hown, hts, hlocks, hK, hR, hRA⟩ := id C0
  intro fu
  induction fu with
  | zero =>
    intro zM x1 x2 x3 x4 x5 x6 x7 H locs ls hP hD hS hl hf
    rw [f_X7_type_9] at hf
    cases hf
  | succ fu ih =>
    intro zM x1 x2 x3 x4 x5 x6 x7 H locs ls hP hD hS hl hf
    rw [f_X7_type_9] at hf
    refine lv_iload hx hb dX7_type_9 (lv_at hl 7 rfl) ?_
    refine lv_iconst (v := 5) hx hb dX7_type_11 (by decide) ?_
    refine lv_icmp_ge (tgt := 92) hx hb dX7_type_12 (by decide) (fun c_1 => ?_) (fun c_1 => ?_)
    · rw [if_pos (c_1)] at hf
      refine lv_aload_n hx hb dX7_type_92 rfl (lv_at hl 0 rfl) ?_
      refine lv_aload_n hx hb dX7_type_93 rfl (lv_at hl 0 rfl) ?_
      refine va_get (D := G) (ci := 5) (v := .int (gM_lineSize zM)) (C := RX7) (T := TX7) (N := 13) hx hb hts fin_X7 hown hK.1 hP 0 rfl rfl 2 (by decide) (hts _ wi_673) (fun _ h9 => h9) rfl dX7_type_94 ?_
      refine lv_bipush (v := (100 : Int32)) hx hb dX7_type_97 (by decide) ?_
      refine lv_icmp_le (tgt := 106) hx hb dX7_type_99 (by decide) (fun c_2 => ?_) (fun c_2 => ?_)
      · rw [if_pos (c_2)] at hf
        refine lv_iconst (v := 0) hx hb dX7_type_106 (by decide) ?_
        exact b_X7_type_107 qM   C0  zM x6 (0 : Int32) H locs ls hP hD hS (lv_sub hl [0, 6] rfl) hf
      · rw [if_neg (c_2)] at hf
        refine lv_iconst (v := 1) hx hb dX7_type_102 (by decide) ?_
        refine lv_goto (tgt := 107) hx hb dX7_type_103 (by decide) ?_
        exact b_X7_type_107 qM   C0  zM x6 (1 : Int32) H locs ls hP hD hS (lv_sub hl [0, 6] rfl) hf
    · rw [if_neg (c_1)] at hf
      refine lv_iload hx hb dX7_type_15 (lv_at hl 7 rfl) ?_
      refine lv_if_ne (tgt := 24) hx hb dX7_type_17 (by decide) (fun c_3 => ?_) (fun c_3 => ?_)
      · rw [if_pos (c_3)] at hf
        refine lv_iload hx hb dX7_type_24 (lv_at hl 7 rfl) ?_
        refine lv_iconst (v := 1) hx hb dX7_type_26 (by decide) ?_
        refine lv_icmp_ne (tgt := 34) hx hb dX7_type_27 (by decide) (fun c_4 => ?_) (fun c_4 => ?_)
        · rw [if_pos (c_4)] at hf
          refine lv_iload hx hb dX7_type_34 (lv_at hl 7 rfl) ?_
          refine lv_iconst (v := 2) hx hb dX7_type_36 (by decide) ?_
          refine lv_icmp_ne (tgt := 44) hx hb dX7_type_37 (by decide) (fun c_5 => ?_) (fun c_5 => ?_)
          · rw [if_pos (c_5)] at hf
            refine lv_iload hx hb dX7_type_44 (lv_at hl 7 rfl) ?_
            refine lv_iconst (v := 3) hx hb dX7_type_46 (by decide) ?_
            refine lv_icmp_ne (tgt := 55) hx hb dX7_type_47 (by decide) (fun c_6 => ?_) (fun c_6 => ?_)
            · rw [if_pos (c_6)] at hf
              refine lv_iload hx hb dX7_type_55 (lv_at hl 5 rfl) ?_
              exact b_X7_type_57 qM   C0 (fun zM_ x1_ x2_ x3_ x4_ x5_ x6_ x7_ => f_X7_type_9  fu zM_ x1_ x2_ x3_ x4_ x5_ x6_ x7_) ih zM x1 x2 x3 x4 x5 x6 x7 x5 H locs ls hP hD hS (lv_sub hl [0, 1, 2, 3, 4, 5, 6, 7] rfl) hf
            · rw [if_neg (not_not_intro c_6)] at hf
              refine lv_iload hx hb dX7_type_50 (lv_at hl 4 rfl) ?_
              refine lv_goto (tgt := 57) hx hb dX7_type_52 (by decide) ?_
              exact b_X7_type_57 qM   C0 (fun zM_ x1_ x2_ x3_ x4_ x5_ x6_ x7_ => f_X7_type_9  fu zM_ x1_ x2_ x3_ x4_ x5_ x6_ x7_) ih zM x1 x2 x3 x4 x5 x6 x7 x4 H locs ls hP hD hS (lv_sub hl [0, 1, 2, 3, 4, 5, 6, 7] rfl) hf
          · rw [if_neg (not_not_intro c_5)] at hf
            refine lv_iload_n hx hb dX7_type_40 rfl (lv_at hl 3 rfl) ?_
            refine lv_goto (tgt := 57) hx hb dX7_type_41 (by decide) ?_
            exact b_X7_type_57 qM   C0 (fun zM_ x1_ x2_ x3_ x4_ x5_ x6_ x7_ => f_X7_type_9  fu zM_ x1_ x2_ x3_ x4_ x5_ x6_ x7_) ih zM x1 x2 x3 x4 x5 x6 x7 x3 H locs ls hP hD hS (lv_sub hl [0, 1, 2, 3, 4, 5, 6, 7] rfl) hf
        · rw [if_neg (not_not_intro c_4)] at hf
          refine lv_iload_n hx hb dX7_type_30 rfl (lv_at hl 2 rfl) ?_
          refine lv_goto (tgt := 57) hx hb dX7_type_31 (by decide) ?_
          exact b_X7_type_57 qM   C0 (fun zM_ x1_ x2_ x3_ x4_ x5_ x6_ x7_ => f_X7_type_9  fu zM_ x1_ x2_ x3_ x4_ x5_ x6_ x7_) ih zM x1 x2 x3 x4 x5 x6 x7 x2 H locs ls hP hD hS (lv_sub hl [0, 1, 2, 3, 4, 5, 6, 7] rfl) hf
      · rw [if_neg (not_not_intro c_3)] at hf
        refine lv_iload_n hx hb dX7_type_20 rfl (lv_at hl 1 rfl) ?_
        refine lv_goto (tgt := 57) hx hb dX7_type_21 (by decide) ?_
        exact b_X7_type_57 qM   C0 (fun zM_ x1_ x2_ x3_ x4_ x5_ x6_ x7_ => f_X7_type_9  fu zM_ x1_ x2_ x3_ x4_ x5_ x6_ x7_) ih zM x1 x2 x3 x4 x5 x6 x7 x1 H locs ls hP hD hS (lv_sub hl [0, 1, 2, 3, 4, 5, 6, 7] rfl) hf
def f_X7_type (zM : MdS) (a1 : Int32) (a2 : Int32) (a3 : Int32) (a4 : Int32) (a5 : Int32) : Option (Int32 × MdS) := (some ((gM_lineSize zM))).bind fun y_1 => f_X7_type_9 fuel zM a1 a2 a3 a4 a5 y_1 (0 : Int32)
set_option maxHeartbeats 4000000 in
set_option maxRecDepth 100000 in
theorem b_X7_type_0 {p : Program} {l : Launch} {e : Env} {s : State} {m : MethodId} {args : Array Value} {below : List Frame} {meth : Method} {c : Code} {G : va_G} {cA : Nat → ClassId} {W9 : va_W} (qM : Nat → Nat) (C0 : Amb p s m args meth c cX7_type RX7 10 (some .int) G cA (adr W9) []) {res : Int32 × MdS} : ∀ (zM : MdS) (a1 : Int32) (a2 : Int32) (a3 : Int32) (a4 : Int32) (a5 : Int32) (H : Heap) (locs : List Loc) (ls : Array Slot), va_P G vwCl ((wMd cA qM zM)) H → va_D (adr W9) ((wMd cA qM zM)) → va_S (adr W9) s.heap H locs → lv_has ls 10 [(0, .ref (qM 0)), (1, .int a1), (2, .int a2), (3, .int a3), (4, .int a4), (5, .int a5)] → f_X7_type zM a1 a2 a3 a4 a5 = some res → W p l e rm_X7_type s m args below meth c H locs 0 0 (MQ below (qWi G W9 ((wMd cA qM res.2)) res.1) args s 0 0 (adr W9)) (F0 m 0 ls []) := by
  obtain ⟨hx, hb, hr, hml, hown, hts, hlocks, hK, hR, hRA⟩ := id C0
  intro zM a1 a2 a3 a4 a5 H locs ls hP hD hS hl hf
  unfold f_X7_type at hf
  refine lv_aload_n hx hb dX7_type_0 rfl (lv_at hl 0 rfl) ?_
  refine va_get (D := G) (ci := 5) (v := .int (gM_lineSize zM)) (C := RX7) (T := TX7) (N := 13) hx hb hts fin_X7 hown hK.1 hP 0 rfl rfl 2 (by decide) (hts _ wi_673) (fun _ h9 => h9) rfl dX7_type_1 ?_
  obtain ⟨y_1, hq, hf⟩ := obd hf
  have hy_1 : (gM_lineSize zM) = y_1 := Option.some.inj hq
  rw [hy_1]
  refine lv_istore (lv' := [(6, .int y_1), (0, .ref (qM 0)), (1, .int a1), (2, .int a2), (3, .int a3), (4, .int a4), (5, .int a5)]) hx hb dX7_type_4 hl (by decide) rfl (fun ls hl => ?_)
  refine lv_iconst (v := 0) hx hb dX7_type_6 (by decide) ?_
  refine lv_istore (lv' := [(7, .int (0 : Int32)), (6, .int y_1), (0, .ref (qM 0)), (1, .int a1), (2, .int a2), (3, .int a3), (4, .int a4), (5, .int a5)]) hx hb dX7_type_7 hl (by decide) rfl (fun ls hl => ?_)
  exact b_X7_type_9 qM   C0  fuel zM a1 a2 a3 a4 a5 y_1 (0 : Int32) H locs ls hP hD hS (lv_sub hl [2, 3, 4, 5, 6, 7, 1, 0] rfl) hf

set_option maxRecDepth 100000 in
theorem m_X7_type (l : Launch) (G : va_G) (cA : Nat → ClassId) (qM : Nat → Nat) (zM : MdS) (a1 : Int32) (a2 : Int32) (a3 : Int32) (a4 : Int32) (a5 : Int32) (res : Int32 × MdS) (hf : f_X7_type zM a1 a2 a3 a4 a5 = some res) : MWi l yX7_type (.code yX7_type cX7_type 10 (some .int) :: wd) rm_X7_type G cA [.ref (qM 0), .int a1, .int a2, .int a3, .int a4, .int a5] ((wMd cA qM zM)) [] ((wMd cA qM res.2)) res.1 := by
  refine Met.ofW (cc := cX7_type) (maxL := 10) (ret := (some .int)) (by decide) rfl ?_
  intro p e s m args below meth c s₁ B hml hv
  obtain ⟨rfl, hK, hP, hD0, hR, hRA⟩ := hv
  have C0 : Amb p s m ([.ref (qM 0), .int a1, .int a2, .int a3, .int a4, .int a5] : List Value).toArray meth c cX7_type RX7 10 (some .int) G cA (adr ((wMd cA qM zM))) [] := ⟨B.exec, B.bytes, B.returns, hml, findClass_of_methodNamed B.named, fun w h => atoms_spec (ws := (.code yX7_type cX7_type 10 (some .int) :: wd)) B.pre w (List.mem_cons_of_mem _ h), B.notSynchronized, hK, hR, hRA⟩
  have hl := lv_entry ([.ref (qM 0), .int a1, .int a2, .int a3, .int a4, .int a5]) (n := 10) (Nat.le_of_ble_eq_true rfl)
  rw [lg_entry_eq]
  generalize (lg_sl ([.ref (qM 0), .int a1, .int a2, .int a3, .int a4, .int a5]) ++ List.replicate (10 - (lg_sl ([.ref (qM 0), .int a1, .int a2, .int a3, .int a4, .int a5])).length) Slot.unset).toArray = ls at hl ⊢
  have hl : lv_has ls 10 [(0, .ref (qM 0)), (1, .int a1), (2, .int a2), (3, .int a3), (4, .int a4), (5, .int a5)] := hl
  exact b_X7_type_0 (W9 := ((wMd cA qM zM))) qM   C0 zM a1 a2 a3 a4 a5 s.heap [] ls hP (adr.self hD0) va_S.rf hl hf
theorem cw_X7_type {R : Room} {s : State} {args : Array Value} {own : String} {index : Nat} (ht : ∀ w ∈ wd, w.before args s = true) (hlink : Cond.methodLink own index yX7_type ∈ wd) (hR : rm_X7_type.frames + 1 ≤ R.frames ∧ 8 + (10 + 11) + rm_X7_type.locals ≤ R.locals) : CallW R s args own RX7 index yX7_type cX7_type 10 (some .int) (.code yX7_type cX7_type 10 (some .int) :: wd) rm_X7_type 0 0 5 := cwV9 5 ht wi_718 wi_716 wi_717 wi_60 hlink (by decide +kernel) rfl rfl hR
def rm_X7_erase : Room := { frames := 0, cells := 0, slots := 0, locals := 0 }
def f_X7_erase (zM : MdS) : Option (Int32 × MdS) := (some ((gM_lineSize (uM_refusal zM (0 : Int32))))).bind fun y_1 => some (y_1, (uM_lineSize (uM_refusal zM (0 : Int32)) (0 : Int32)))
set_option maxHeartbeats 4000000 in
set_option maxRecDepth 100000 in
theorem b_X7_erase_0 {p : Program} {l : Launch} {e : Env} {s : State} {m : MethodId} {args : Array Value} {below : List Frame} {meth : Method} {c : Code} {G : va_G} {cA : Nat → ClassId} {W9 : va_W} (qM : Nat → Nat) (C0 : Amb p s m args meth c cX7_erase RX7 2 (some .int) G cA (adr W9) []) {res : Int32 × MdS} : ∀ (zM : MdS) (H : Heap) (locs : List Loc) (ls : Array Slot), va_P G vwCl ((wMd cA qM zM)) H → va_D (adr W9) ((wMd cA qM zM)) → va_S (adr W9) s.heap H locs → lv_has ls 2 [(0, .ref (qM 0))] → f_X7_erase zM = some res → W p l e rm_X7_erase s m args below meth c H locs 0 0 (MQ below (qWi G W9 ((wMd cA qM res.2)) res.1) args s 0 0 (adr W9)) (F0 m 0 ls []) := by
  obtain ⟨hx, hb, hr, hml, hown, hts, hlocks, hK, hR, hRA⟩ := id C0
  intro zM H locs ls hP hD hS hl hf
  unfold f_X7_erase at hf
  refine lv_aload_n hx hb dX7_erase_0 rfl (lv_at hl 0 rfl) ?_
  refine lv_iconst (v := 0) hx hb dX7_erase_1 (by decide) ?_
  refine va_put (D := G) (ci := 5) (v := .int (0 : Int32)) (ty := .int) (C := RX7) (T := TX7) (N := 13) hx hb hts fin_X7 tyX7 tyX7_ok nmX7 hown hK.1 hP hD hS 0 rfl rfl 0 (by decide) (hts _ wi_671) (fun _ h9 => h9) rfl (by decide +kernel) rfl rfl (Nat.le_of_ble_eq_true rfl) dX7_erase_2 (fun H locs hP hD hS => ?_)
  have hP : va_P G vwCl ((wMd cA qM (uM_refusal zM (0 : Int32)))) H := hP
  have hD : va_D (adr W9) ((wMd cA qM (uM_refusal zM (0 : Int32)))) := hD
  refine lv_aload_n hx hb dX7_erase_5 rfl (lv_at hl 0 rfl) ?_
  refine va_get (D := G) (ci := 5) (v := .int (gM_lineSize (uM_refusal zM (0 : Int32)))) (C := RX7) (T := TX7) (N := 13) hx hb hts fin_X7 hown hK.1 hP 0 rfl rfl 2 (by decide) (hts _ wi_673) (fun _ h9 => h9) rfl dX7_erase_6 ?_
  obtain ⟨y_1, hq, hf⟩ := obd hf
  have hy_1 : (gM_lineSize (uM_refusal zM (0 : Int32))) = y_1 := Option.some.inj hq
  rw [hy_1]
  refine lv_istore_n (lv' := [(1, .int y_1), (0, .ref (qM 0))]) hx hb dX7_erase_9 rfl hl (by decide) rfl (fun ls hl => ?_)
  refine lv_aload_n hx hb dX7_erase_10 rfl (lv_at hl 1 rfl) ?_
  refine lv_iconst (v := 0) hx hb dX7_erase_11 (by decide) ?_
  refine va_put (D := G) (ci := 5) (v := .int (0 : Int32)) (ty := .int) (C := RX7) (T := TX7) (N := 13) hx hb hts fin_X7 tyX7 tyX7_ok nmX7 hown hK.1 hP hD hS 0 rfl rfl 2 (by decide) (hts _ wi_673) (fun _ h9 => h9) rfl (by decide +kernel) rfl rfl (Nat.le_of_ble_eq_true rfl) dX7_erase_12 (fun H locs hP hD hS => ?_)
  have hP : va_P G vwCl ((wMd cA qM (uM_lineSize (uM_refusal zM (0 : Int32)) (0 : Int32)))) H := hP
  have hD : va_D (adr W9) ((wMd cA qM (uM_lineSize (uM_refusal zM (0 : Int32)) (0 : Int32)))) := hD
  refine lv_iload_n hx hb dX7_erase_15 rfl (lv_at hl 0 rfl) ?_
  cases hf
  exact W.iret hx hb hr (fun t ht hW => ⟨⟨_, (), rfl, rfl, toT ht hP⟩, hS.F ht⟩) hS.2.2 dX7_erase_16 hlocks

set_option maxRecDepth 100000 in
theorem m_X7_erase (l : Launch) (G : va_G) (cA : Nat → ClassId) (qM : Nat → Nat) (zM : MdS) (res : Int32 × MdS) (hf : f_X7_erase zM = some res) : MWi l yX7_erase (.code yX7_erase cX7_erase 2 (some .int) :: wd) rm_X7_erase G cA [.ref (qM 0)] ((wMd cA qM zM)) [] ((wMd cA qM res.2)) res.1 := by
  refine Met.ofW (cc := cX7_erase) (maxL := 2) (ret := (some .int)) (by decide) rfl ?_
  intro p e s m args below meth c s₁ B hml hv
  obtain ⟨rfl, hK, hP, hD0, hR, hRA⟩ := hv
  have C0 : Amb p s m ([.ref (qM 0)] : List Value).toArray meth c cX7_erase RX7 2 (some .int) G cA (adr ((wMd cA qM zM))) [] := ⟨B.exec, B.bytes, B.returns, hml, findClass_of_methodNamed B.named, fun w h => atoms_spec (ws := (.code yX7_erase cX7_erase 2 (some .int) :: wd)) B.pre w (List.mem_cons_of_mem _ h), B.notSynchronized, hK, hR, hRA⟩
  have hl := lv_entry ([.ref (qM 0)]) (n := 2) (Nat.le_of_ble_eq_true rfl)
  rw [lg_entry_eq]
  generalize (lg_sl ([.ref (qM 0)]) ++ List.replicate (2 - (lg_sl ([.ref (qM 0)])).length) Slot.unset).toArray = ls at hl ⊢
  have hl : lv_has ls 2 [(0, .ref (qM 0))] := hl
  exact b_X7_erase_0 (W9 := ((wMd cA qM zM))) qM   C0 zM s.heap [] ls hP (adr.self hD0) va_S.rf hl hf
theorem cw_X7_erase {R : Room} {s : State} {args : Array Value} {own : String} {index : Nat} (ht : ∀ w ∈ wd, w.before args s = true) (hlink : Cond.methodLink own index yX7_erase ∈ wd) (hR : rm_X7_erase.frames + 1 ≤ R.frames ∧ 8 + (2 + 11) + rm_X7_erase.locals ≤ R.locals) : CallW R s args own RX7 index yX7_erase cX7_erase 2 (some .int) (.code yX7_erase cX7_erase 2 (some .int) :: wd) rm_X7_erase 0 0 0 := cwV9 0 ht wi_730 wi_728 wi_729 wi_60 hlink (by decide +kernel) rfl rfl hR
def rm_X7_next : Room := { frames := 0, cells := 0, slots := 0, locals := 0 }
def f_X7_next_38 (zM : MdS) : Option (Int32 × MdS) := if (gM_lineSize zM) ≤ (gM_at zM) then if cb (0 : Int32) = true then some ((0 : Int32), zM) else none else if inb (gM_at zM) 100 = true then if cb (gM_line zM (gM_at zM).toNatClampNeg) = true then some ((gM_line zM (gM_at zM).toNatClampNeg), zM) else none else none
set_option maxHeartbeats 4000000 in
set_option maxRecDepth 100000 in
theorem b_X7_next_38 {p : Program} {l : Launch} {e : Env} {s : State} {m : MethodId} {args : Array Value} {below : List Frame} {meth : Method} {c : Code} {G : va_G} {cA : Nat → ClassId} {W9 : va_W} (qM : Nat → Nat) (C0 : Amb p s m args meth c cX7_next RX7 1 (some .char) G cA (adr W9) []) {res : Int32 × MdS} : ∀ (zM : MdS) (H : Heap) (locs : List Loc) (ls : Array Slot), va_P G vwCl ((wMd cA qM zM)) H → va_D (adr W9) ((wMd cA qM zM)) → va_S (adr W9) s.heap H locs → lv_has ls 1 [(0, .ref (qM 0))] → f_X7_next_38 zM = some res → W p l e rm_X7_next s m args below meth c H locs 0 0 (MQ below (qWi G W9 ((wMd cA qM res.2)) res.1) args s 0 0 (adr W9)) (F0 m 38 ls []) := by
  obtain ⟨hx, hb, hr, hml, hown, hts, hlocks, hK, hR, hRA⟩ := id C0
  intro zM H locs ls hP hD hS hl hf
  unfold f_X7_next_38 at hf
  refine lv_aload_n hx hb dX7_next_38 rfl (lv_at hl 0 rfl) ?_
  refine va_get (D := G) (ci := 5) (v := .int (gM_at zM)) (C := RX7) (T := TX7) (N := 13) hx hb hts fin_X7 hown hK.1 hP 0 rfl rfl 9 (by decide) (hts _ wi_680) (fun _ h9 => h9) rfl dX7_next_39 ?_
  refine lv_aload_n hx hb dX7_next_42 rfl (lv_at hl 0 rfl) ?_
  refine va_get (D := G) (ci := 5) (v := .int (gM_lineSize zM)) (C := RX7) (T := TX7) (N := 13) hx hb hts fin_X7 hown hK.1 hP 0 rfl rfl 2 (by decide) (hts _ wi_673) (fun _ h9 => h9) rfl dX7_next_43 ?_
  refine lv_icmp_ge (tgt := 61) hx hb dX7_next_46 (by decide) (fun c_1 => ?_) (fun c_1 => ?_)
  · rw [if_pos (c_1)] at hf
    refine lv_iconst (v := 0) hx hb dX7_next_61 (by decide) ?_
    obtain ⟨hz_2, hf⟩ := oif hf
    cases hf
    exact W.zret hx hb hr (cb_n hz_2) (fun t ht hW => ⟨⟨_, (), rfl, rfl, toT ht hP⟩, hS.F ht⟩) hS.2.2 dX7_next_62 hlocks
  · rw [if_neg (c_1)] at hf
    refine lv_aload_n hx hb dX7_next_49 rfl (lv_at hl 0 rfl) ?_
    refine va_get (D := G) (ci := 5) (v := .ref (qM 1)) (C := RX7) (T := TX7) (N := 13) hx hb hts fin_X7 hown hK.1 hP 0 rfl rfl 1 (by decide) (hts _ wi_672) (fun _ h9 => h9) rfl dX7_next_50 ?_
    refine lv_aload_n hx hb dX7_next_53 rfl (lv_at hl 0 rfl) ?_
    refine va_get (D := G) (ci := 5) (v := .int (gM_at zM)) (C := RX7) (T := TX7) (N := 13) hx hb hts fin_X7 hown hK.1 hP 0 rfl rfl 9 (by decide) (hts _ wi_680) (fun _ h9 => h9) rfl dX7_next_54 ?_
    obtain ⟨hi_3, hf⟩ := oif hf
    refine va_cald hx hb hK.1 hP 1 2 rfl rfl (inb_in hi_3) dX7_next_57 ?_
    refine lv_goto (tgt := 62) hx hb dX7_next_58 (by decide) ?_
    obtain ⟨hz_4, hf⟩ := oif hf
    cases hf
    exact W.zret hx hb hr (cb_n hz_4) (fun t ht hW => ⟨⟨_, (), rfl, rfl, toT ht hP⟩, hS.F ht⟩) hS.2.2 dX7_next_62 hlocks
def f_X7_next_0  : Nat → MdS → Option (Int32 × MdS)
  | 0, _ => none
  | fu + 1, zM => if (gM_lineSize zM) ≤ (gM_at zM) then f_X7_next_38  zM else if inb (gM_at zM) 100 = true then if ¬ (gM_line zM (gM_at zM).toNatClampNeg) = (32 : Int32) then f_X7_next_38  zM else f_X7_next_0  fu (uM_at zM ((gM_at zM) + (1 : Int32))) else none
set_option maxHeartbeats 4000000 in
set_option maxRecDepth 100000 in
theorem b_X7_next_0 {p : Program} {l : Launch} {e : Env} {s : State} {m : MethodId} {args : Array Value} {below : List Frame} {meth : Method} {c : Code} {G : va_G} {cA : Nat → ClassId} {W9 : va_W} (qM : Nat → Nat) (C0 : Amb p s m args meth c cX7_next RX7 1 (some .char) G cA (adr W9) []) {res : Int32 × MdS} : ∀ (fu : Nat) (zM : MdS) (H : Heap) (locs : List Loc) (ls : Array Slot), va_P G vwCl ((wMd cA qM zM)) H → va_D (adr W9) ((wMd cA qM zM)) → va_S (adr W9) s.heap H locs → lv_has ls 1 [(0, .ref (qM 0))] → f_X7_next_0 fu zM = some res → W p l e rm_X7_next s m args below meth c H locs 0 0 (MQ below (qWi G W9 ((wMd cA qM res.2)) res.1) args s 0 0 (adr W9)) (F0 m 0 ls []) := by
  obtain ⟨hx, hb, hr, hml, hown, hts, hlocks, hK, hR, hRA⟩ := id C0
  intro fu
  induction fu with
  | zero =>
    intro zM H locs ls hP hD hS hl hf
    rw [f_X7_next_0] at hf
    cases hf
  | succ fu ih =>
    intro zM H locs ls hP hD hS hl hf
    rw [f_X7_next_0] at hf
    refine lv_aload_n hx hb dX7_next_0 rfl (lv_at hl 0 rfl) ?_
    refine va_get (D := G) (ci := 5) (v := .int (gM_at zM)) (C := RX7) (T := TX7) (N := 13) hx hb hts fin_X7 hown hK.1 hP 0 rfl rfl 9 (by decide) (hts _ wi_680) (fun _ h9 => h9) rfl dX7_next_1 ?_
    refine lv_aload_n hx hb dX7_next_4 rfl (lv_at hl 0 rfl) ?_
    refine va_get (D := G) (ci := 5) (v := .int (gM_lineSize zM)) (C := RX7) (T := TX7) (N := 13) hx hb hts fin_X7 hown hK.1 hP 0 rfl rfl 2 (by decide) (hts _ wi_673) (fun _ h9 => h9) rfl dX7_next_5 ?_
    refine lv_icmp_ge (tgt := 38) hx hb dX7_next_8 (by decide) (fun c_1 => ?_) (fun c_1 => ?_)
    · rw [if_pos (c_1)] at hf
      exact b_X7_next_38 qM   C0  zM H locs ls hP hD hS (lv_sub hl [0] rfl) hf
    · rw [if_neg (c_1)] at hf
      refine lv_aload_n hx hb dX7_next_11 rfl (lv_at hl 0 rfl) ?_
      refine va_get (D := G) (ci := 5) (v := .ref (qM 1)) (C := RX7) (T := TX7) (N := 13) hx hb hts fin_X7 hown hK.1 hP 0 rfl rfl 1 (by decide) (hts _ wi_672) (fun _ h9 => h9) rfl dX7_next_12 ?_
      refine lv_aload_n hx hb dX7_next_15 rfl (lv_at hl 0 rfl) ?_
      refine va_get (D := G) (ci := 5) (v := .int (gM_at zM)) (C := RX7) (T := TX7) (N := 13) hx hb hts fin_X7 hown hK.1 hP 0 rfl rfl 9 (by decide) (hts _ wi_680) (fun _ h9 => h9) rfl dX7_next_16 ?_
      obtain ⟨hi_2, hf⟩ := oif hf
      refine va_cald hx hb hK.1 hP 1 2 rfl rfl (inb_in hi_2) dX7_next_19 ?_
      refine lv_bipush (v := (32 : Int32)) hx hb dX7_next_20 (by decide) ?_
      refine lv_icmp_ne (tgt := 38) hx hb dX7_next_22 (by decide) (fun c_3 => ?_) (fun c_3 => ?_)
      · rw [if_pos (c_3)] at hf
        exact b_X7_next_38 qM   C0  zM H locs ls hP hD hS (lv_sub hl [0] rfl) hf
      · rw [if_neg (not_not_intro c_3)] at hf
        refine lv_aload_n hx hb dX7_next_25 rfl (lv_at hl 0 rfl) ?_
        refine lv_dup hx hb dX7_next_26 rfl ?_
        refine va_get (D := G) (ci := 5) (v := .int (gM_at zM)) (C := RX7) (T := TX7) (N := 13) hx hb hts fin_X7 hown hK.1 hP 0 rfl rfl 9 (by decide) (hts _ wi_680) (fun _ h9 => h9) rfl dX7_next_27 ?_
        refine lv_iconst (v := 1) hx hb dX7_next_30 (by decide) ?_
        refine lv_iadd hx hb dX7_next_31 ?_
        refine va_put (D := G) (ci := 5) (v := .int ((gM_at zM) + (1 : Int32))) (ty := .int) (C := RX7) (T := TX7) (N := 13) hx hb hts fin_X7 tyX7 tyX7_ok nmX7 hown hK.1 hP hD hS 0 rfl rfl 9 (by decide) (hts _ wi_680) (fun _ h9 => h9) rfl (by decide +kernel) rfl rfl (Nat.le_of_ble_eq_true rfl) dX7_next_32 (fun H locs hP hD hS => ?_)
        have hP : va_P G vwCl ((wMd cA qM (uM_at zM ((gM_at zM) + (1 : Int32))))) H := hP
        have hD : va_D (adr W9) ((wMd cA qM (uM_at zM ((gM_at zM) + (1 : Int32))))) := hD
        refine lv_goto (tgt := 0) hx hb dX7_next_35 (by decide) ?_
        exact ih (uM_at zM ((gM_at zM) + (1 : Int32))) H locs ls hP hD hS (lv_sub hl [0] rfl) hf

def f_X7_next (zM : MdS) : Option (Int32 × MdS) := f_X7_next_0 fuel zM
set_option maxRecDepth 100000 in
theorem m_X7_next (l : Launch) (G : va_G) (cA : Nat → ClassId) (qM : Nat → Nat) (zM : MdS) (res : Int32 × MdS) (hf : f_X7_next zM = some res) : MWi l yX7_next (.code yX7_next cX7_next 1 (some .char) :: wd) rm_X7_next G cA [.ref (qM 0)] ((wMd cA qM zM)) [] ((wMd cA qM res.2)) res.1 := by
  refine Met.ofW (cc := cX7_next) (maxL := 1) (ret := (some .char)) (by decide) rfl ?_
  intro p e s m args below meth c s₁ B hml hv
  obtain ⟨rfl, hK, hP, hD0, hR, hRA⟩ := hv
  have C0 : Amb p s m ([.ref (qM 0)] : List Value).toArray meth c cX7_next RX7 1 (some .char) G cA (adr ((wMd cA qM zM))) [] := ⟨B.exec, B.bytes, B.returns, hml, findClass_of_methodNamed B.named, fun w h => atoms_spec (ws := (.code yX7_next cX7_next 1 (some .char) :: wd)) B.pre w (List.mem_cons_of_mem _ h), B.notSynchronized, hK, hR, hRA⟩
  have hl := lv_entry ([.ref (qM 0)]) (n := 1) (Nat.le_of_ble_eq_true rfl)
  rw [lg_entry_eq]
  generalize (lg_sl ([.ref (qM 0)]) ++ List.replicate (1 - (lg_sl ([.ref (qM 0)])).length) Slot.unset).toArray = ls at hl ⊢
  have hl : lv_has ls 1 [(0, .ref (qM 0))] := hl
  unfold f_X7_next at hf
  exact b_X7_next_0 (W9 := ((wMd cA qM zM))) qM   C0 fuel zM s.heap [] ls hP (adr.self hD0) va_S.rf hl hf
theorem cw_X7_next {R : Room} {s : State} {args : Array Value} {own : String} {index : Nat} (ht : ∀ w ∈ wd, w.before args s = true) (hlink : Cond.methodLink own index yX7_next ∈ wd) (hR : rm_X7_next.frames + 1 ≤ R.frames ∧ 8 + (1 + 11) + rm_X7_next.locals ≤ R.locals) : CallW R s args own RX7 index yX7_next cX7_next 1 (some .char) (.code yX7_next cX7_next 1 (some .char) :: wd) rm_X7_next 0 0 0 := cwV9 0 ht wi_749 wi_748 wi_32 wi_60 hlink (by decide +kernel) rfl rfl hR
def rm_X7_wrong : Room := { frames := 0, cells := 0, slots := 0, locals := 0 }
def f_X7_wrong (zM : MdS) (a1 : Int32) (a2 : Int32) : Option (MdS) := if ¬ (gM_fault zM) = 0 then some zM else some (uM_wrongPlace (uM_fault zM a1) a2)
set_option maxHeartbeats 4000000 in
set_option maxRecDepth 100000 in
theorem b_X7_wrong_0 {p : Program} {l : Launch} {e : Env} {s : State} {m : MethodId} {args : Array Value} {below : List Frame} {meth : Method} {c : Code} {G : va_G} {cA : Nat → ClassId} {W9 : va_W} (qM : Nat → Nat) (C0 : Amb p s m args meth c cX7_wrong RX7 3 none G cA (adr W9) []) {res : MdS} : ∀ (zM : MdS) (a1 : Int32) (a2 : Int32) (H : Heap) (locs : List Loc) (ls : Array Slot), va_P G vwCl ((wMd cA qM zM)) H → va_D (adr W9) ((wMd cA qM zM)) → va_S (adr W9) s.heap H locs → lv_has ls 3 [(0, .ref (qM 0)), (1, .int a1), (2, .int a2)] → f_X7_wrong zM a1 a2 = some res → W p l e rm_X7_wrong s m args below meth c H locs 0 0 (MQ below (qWv G W9 ((wMd cA qM res))) args s 0 0 (adr W9)) (F0 m 0 ls []) := by
  obtain ⟨hx, hb, hr, hml, hown, hts, hlocks, hK, hR, hRA⟩ := id C0
  intro zM a1 a2 H locs ls hP hD hS hl hf
  unfold f_X7_wrong at hf
  refine lv_aload_n hx hb dX7_wrong_0 rfl (lv_at hl 0 rfl) ?_
  refine va_get (D := G) (ci := 5) (v := .int (gM_fault zM)) (C := RX7) (T := TX7) (N := 13) hx hb hts fin_X7 hown hK.1 hP 0 rfl rfl 10 (by decide) (hts _ wi_681) (fun _ h9 => h9) rfl dX7_wrong_1 ?_
  refine lv_if_ne (tgt := 17) hx hb dX7_wrong_4 (by decide) (fun c_1 => ?_) (fun c_1 => ?_)
  · rw [if_pos (c_1)] at hf
    cases hf
    exact W.vret hx hb hr (fun t ht hW => ⟨⟨(), rfl, trivial, toT ht hP⟩, hS.F ht⟩) hS.2.2 dX7_wrong_17 hlocks
  · rw [if_neg (not_not_intro c_1)] at hf
    refine lv_aload_n hx hb dX7_wrong_7 rfl (lv_at hl 0 rfl) ?_
    refine lv_iload_n hx hb dX7_wrong_8 rfl (lv_at hl 1 rfl) ?_
    refine va_put (D := G) (ci := 5) (v := .int a1) (ty := .int) (C := RX7) (T := TX7) (N := 13) hx hb hts fin_X7 tyX7 tyX7_ok nmX7 hown hK.1 hP hD hS 0 rfl rfl 10 (by decide) (hts _ wi_681) (fun _ h9 => h9) rfl (by decide +kernel) rfl rfl (Nat.le_of_ble_eq_true rfl) dX7_wrong_9 (fun H locs hP hD hS => ?_)
    have hP : va_P G vwCl ((wMd cA qM (uM_fault zM a1))) H := hP
    have hD : va_D (adr W9) ((wMd cA qM (uM_fault zM a1))) := hD
    refine lv_aload_n hx hb dX7_wrong_12 rfl (lv_at hl 0 rfl) ?_
    refine lv_iload_n hx hb dX7_wrong_13 rfl (lv_at hl 2 rfl) ?_
    refine va_put (D := G) (ci := 5) (v := .int a2) (ty := .int) (C := RX7) (T := TX7) (N := 13) hx hb hts fin_X7 tyX7 tyX7_ok nmX7 hown hK.1 hP hD hS 0 rfl rfl 5 (by decide) (hts _ wi_676) (fun _ h9 => h9) rfl (by decide +kernel) rfl rfl (Nat.le_of_ble_eq_true rfl) dX7_wrong_14 (fun H locs hP hD hS => ?_)
    have hP : va_P G vwCl ((wMd cA qM (uM_wrongPlace (uM_fault zM a1) a2))) H := hP
    have hD : va_D (adr W9) ((wMd cA qM (uM_wrongPlace (uM_fault zM a1) a2))) := hD
    cases hf
    exact W.vret hx hb hr (fun t ht hW => ⟨⟨(), rfl, trivial, toT ht hP⟩, hS.F ht⟩) hS.2.2 dX7_wrong_17 hlocks

set_option maxRecDepth 100000 in
theorem m_X7_wrong (l : Launch) (G : va_G) (cA : Nat → ClassId) (qM : Nat → Nat) (zM : MdS) (a1 : Int32) (a2 : Int32) (res : MdS) (hf : f_X7_wrong zM a1 a2 = some res) : MWv l yX7_wrong (.code yX7_wrong cX7_wrong 3 none :: wd) rm_X7_wrong G cA [.ref (qM 0), .int a1, .int a2] ((wMd cA qM zM)) [] ((wMd cA qM res)) := by
  refine Met.ofW (cc := cX7_wrong) (maxL := 3) (ret := none) (by decide) rfl ?_
  intro p e s m args below meth c s₁ B hml hv
  obtain ⟨rfl, hK, hP, hD0, hR, hRA⟩ := hv
  have C0 : Amb p s m ([.ref (qM 0), .int a1, .int a2] : List Value).toArray meth c cX7_wrong RX7 3 none G cA (adr ((wMd cA qM zM))) [] := ⟨B.exec, B.bytes, B.returns, hml, findClass_of_methodNamed B.named, fun w h => atoms_spec (ws := (.code yX7_wrong cX7_wrong 3 none :: wd)) B.pre w (List.mem_cons_of_mem _ h), B.notSynchronized, hK, hR, hRA⟩
  have hl := lv_entry ([.ref (qM 0), .int a1, .int a2]) (n := 3) (Nat.le_of_ble_eq_true rfl)
  rw [lg_entry_eq]
  generalize (lg_sl ([.ref (qM 0), .int a1, .int a2]) ++ List.replicate (3 - (lg_sl ([.ref (qM 0), .int a1, .int a2])).length) Slot.unset).toArray = ls at hl ⊢
  have hl : lv_has ls 3 [(0, .ref (qM 0)), (1, .int a1), (2, .int a2)] := hl
  exact b_X7_wrong_0 (W9 := ((wMd cA qM zM))) qM   C0 zM a1 a2 s.heap [] ls hP (adr.self hD0) va_S.rf hl hf
theorem cw_X7_wrong {R : Room} {s : State} {args : Array Value} {own : String} {index : Nat} (ht : ∀ w ∈ wd, w.before args s = true) (hlink : Cond.methodLink own index yX7_wrong ∈ wd) (hR : rm_X7_wrong.frames + 1 ≤ R.frames ∧ 8 + (3 + 11) + rm_X7_wrong.locals ≤ R.locals) : CallW R s args own RX7 index yX7_wrong cX7_wrong 3 none (.code yX7_wrong cX7_wrong 3 none :: wd) rm_X7_wrong 0 0 2 := cwV9 2 ht wi_764 wi_763 wi_35 wi_60 hlink (by decide +kernel) rfl rfl hR
def rm_X7_takes : Room := { frames := 1, cells := 0, slots := 0, locals := 20 }
def f_X7_takes (zM : MdS) (a1 : Int32) : Option (Int32 × MdS) := if ¬ (gM_fault zM) = 0 then some ((0 : Int32), zM) else (f_X7_next zM).bind fun r_2 => if r_2.1 = a1 then some ((1 : Int32), (uM_at r_2.2 ((gM_at r_2.2) + (1 : Int32)))) else some ((0 : Int32), r_2.2)
set_option maxHeartbeats 4000000 in
set_option maxRecDepth 100000 in
theorem b_X7_takes_0 {p : Program} {l : Launch} {e : Env} {s : State} {m : MethodId} {args : Array Value} {below : List Frame} {meth : Method} {c : Code} {G : va_G} {cA : Nat → ClassId} {W9 : va_W} (qM : Nat → Nat) (C0 : Amb p s m args meth c cX7_takes RX7 2 (some .boolean) G cA (adr W9) []) {res : Int32 × MdS} : ∀ (zM : MdS) (a1 : Int32) (H : Heap) (locs : List Loc) (ls : Array Slot), va_P G vwCl ((wMd cA qM zM)) H → va_D (adr W9) ((wMd cA qM zM)) → va_S (adr W9) s.heap H locs → lv_has ls 2 [(0, .ref (qM 0)), (1, .int a1)] → f_X7_takes zM a1 = some res → W p l e rm_X7_takes s m args below meth c H locs 0 0 (MQ below (qWi G W9 ((wMd cA qM res.2)) res.1) args s 0 0 (adr W9)) (F0 m 0 ls []) := by
  obtain ⟨hx, hb, hr, hml, hown, hts, hlocks, hK, hR, hRA⟩ := id C0
  intro zM a1 H locs ls hP hD hS hl hf
  unfold f_X7_takes at hf
  refine lv_aload_n hx hb dX7_takes_0 rfl (lv_at hl 0 rfl) ?_
  refine va_get (D := G) (ci := 5) (v := .int (gM_fault zM)) (C := RX7) (T := TX7) (N := 13) hx hb hts fin_X7 hown hK.1 hP 0 rfl rfl 10 (by decide) (hts _ wi_681) (fun _ h9 => h9) rfl dX7_takes_1 ?_
  refine lv_if_ne (tgt := 15) hx hb dX7_takes_4 (by decide) (fun c_1 => ?_) (fun c_1 => ?_)
  · rw [if_pos (c_1)] at hf
    refine lv_iconst (v := 0) hx hb dX7_takes_15 (by decide) ?_
    cases hf
    exact W.zret hx hb hr (by decide) (fun t ht hW => ⟨⟨_, (), rfl, rfl, toT ht hP⟩, hS.F ht⟩) hS.2.2 dX7_takes_16 hlocks
  · rw [if_neg (not_not_intro c_1)] at hf
    refine lv_aload_n hx hb dX7_takes_7 rfl (lv_at hl 0 rfl) ?_
    obtain ⟨r_2, hr_2, hf⟩ := obd hf
    refine cWiV (As := []) (rest := []) (W1 := ((wMd cA qM r_2.2))) ⟨hx, hb, hml, hown, hts⟩ (m_X7_next l G cA qM zM r_2 hr_2) (cw_X7_next hts wi_746 ⟨Nat.le_of_ble_eq_true rfl, Nat.le_of_ble_eq_true rfl⟩) hK hP hD hS [0, 1, 2, 3, 4] [5, 6, 7, 8, 9] rfl rfl rfl (by decide) rfl va_Pnil dj_nil (va_recv hK.1 hP (ci := 5) (q0 := 0) rfl rfl) rfl hl.1 rfl (Nat.le_of_ble_eq_true rfl) dX7_takes_8 ⟨Nat.zero_le _, Nat.zero_le _⟩ (fun H locs hP hD hS => ?_)
    refine lv_iload_n hx hb dX7_takes_11 rfl (lv_at hl 1 rfl) ?_
    refine lv_icmp_eq (tgt := 17) hx hb dX7_takes_12 (by decide) (fun c_3 => ?_) (fun c_3 => ?_)
    · rw [if_pos (c_3)] at hf
      refine lv_aload_n hx hb dX7_takes_17 rfl (lv_at hl 0 rfl) ?_
      refine lv_dup hx hb dX7_takes_18 rfl ?_
      refine va_get (D := G) (ci := 5) (v := .int (gM_at r_2.2)) (C := RX7) (T := TX7) (N := 13) hx hb hts fin_X7 hown hK.1 hP 0 rfl rfl 9 (by decide) (hts _ wi_680) (fun _ h9 => h9) rfl dX7_takes_19 ?_
      refine lv_iconst (v := 1) hx hb dX7_takes_22 (by decide) ?_
      refine lv_iadd hx hb dX7_takes_23 ?_
      refine va_put (D := G) (ci := 5) (v := .int ((gM_at r_2.2) + (1 : Int32))) (ty := .int) (C := RX7) (T := TX7) (N := 13) hx hb hts fin_X7 tyX7 tyX7_ok nmX7 hown hK.1 hP hD hS 0 rfl rfl 9 (by decide) (hts _ wi_680) (fun _ h9 => h9) rfl (by decide +kernel) rfl rfl (Nat.le_of_ble_eq_true rfl) dX7_takes_24 (fun H locs hP hD hS => ?_)
      have hP : va_P G vwCl ((wMd cA qM (uM_at r_2.2 ((gM_at r_2.2) + (1 : Int32))))) H := hP
      have hD : va_D (adr W9) ((wMd cA qM (uM_at r_2.2 ((gM_at r_2.2) + (1 : Int32))))) := hD
      refine lv_iconst (v := 1) hx hb dX7_takes_27 (by decide) ?_
      cases hf
      exact W.zret hx hb hr (by decide) (fun t ht hW => ⟨⟨_, (), rfl, rfl, toT ht hP⟩, hS.F ht⟩) hS.2.2 dX7_takes_28 hlocks
    · rw [if_neg (c_3)] at hf
      refine lv_iconst (v := 0) hx hb dX7_takes_15 (by decide) ?_
      cases hf
      exact W.zret hx hb hr (by decide) (fun t ht hW => ⟨⟨_, (), rfl, rfl, toT ht hP⟩, hS.F ht⟩) hS.2.2 dX7_takes_16 hlocks

set_option maxRecDepth 100000 in
theorem m_X7_takes (l : Launch) (G : va_G) (cA : Nat → ClassId) (qM : Nat → Nat) (zM : MdS) (a1 : Int32) (res : Int32 × MdS) (hf : f_X7_takes zM a1 = some res) : MWi l yX7_takes (.code yX7_takes cX7_takes 2 (some .boolean) :: wd) rm_X7_takes G cA [.ref (qM 0), .int a1] ((wMd cA qM zM)) [] ((wMd cA qM res.2)) res.1 := by
  refine Met.ofW (cc := cX7_takes) (maxL := 2) (ret := (some .boolean)) (by decide) rfl ?_
  intro p e s m args below meth c s₁ B hml hv
  obtain ⟨rfl, hK, hP, hD0, hR, hRA⟩ := hv
  have C0 : Amb p s m ([.ref (qM 0), .int a1] : List Value).toArray meth c cX7_takes RX7 2 (some .boolean) G cA (adr ((wMd cA qM zM))) [] := ⟨B.exec, B.bytes, B.returns, hml, findClass_of_methodNamed B.named, fun w h => atoms_spec (ws := (.code yX7_takes cX7_takes 2 (some .boolean) :: wd)) B.pre w (List.mem_cons_of_mem _ h), B.notSynchronized, hK, hR, hRA⟩
  have hl := lv_entry ([.ref (qM 0), .int a1]) (n := 2) (Nat.le_of_ble_eq_true rfl)
  rw [lg_entry_eq]
  generalize (lg_sl ([.ref (qM 0), .int a1]) ++ List.replicate (2 - (lg_sl ([.ref (qM 0), .int a1])).length) Slot.unset).toArray = ls at hl ⊢
  have hl : lv_has ls 2 [(0, .ref (qM 0)), (1, .int a1)] := hl
  exact b_X7_takes_0 (W9 := ((wMd cA qM zM))) qM   C0 zM a1 s.heap [] ls hP (adr.self hD0) va_S.rf hl hf
theorem cw_X7_takes {R : Room} {s : State} {args : Array Value} {own : String} {index : Nat} (ht : ∀ w ∈ wd, w.before args s = true) (hlink : Cond.methodLink own index yX7_takes ∈ wd) (hR : rm_X7_takes.frames + 1 ≤ R.frames ∧ 8 + (2 + 11) + rm_X7_takes.locals ≤ R.locals) : CallW R s args own RX7 index yX7_takes cX7_takes 2 (some .boolean) (.code yX7_takes cX7_takes 2 (some .boolean) :: wd) rm_X7_takes 0 0 1 := cwV9 1 ht wi_745 wi_744 wi_31 wi_60 hlink (by decide +kernel) rfl rfl hR
def rm_X7_want : Room := { frames := 2, cells := 0, slots := 0, locals := 41 }
def f_X7_want (zM : MdS) (a1 : Int32) : Option (MdS) := (f_X7_takes zM a1).bind fun r_1 => if ¬ r_1.1 = 0 then some r_1.2 else (f_X7_wrong r_1.2 (-2 : Int32) (gM_at r_1.2)).bind fun r_3 => some r_3
set_option maxHeartbeats 4000000 in
set_option maxRecDepth 100000 in
theorem b_X7_want_0 {p : Program} {l : Launch} {e : Env} {s : State} {m : MethodId} {args : Array Value} {below : List Frame} {meth : Method} {c : Code} {G : va_G} {cA : Nat → ClassId} {W9 : va_W} (qM : Nat → Nat) (C0 : Amb p s m args meth c cX7_want RX7 2 none G cA (adr W9) []) {res : MdS} : ∀ (zM : MdS) (a1 : Int32) (H : Heap) (locs : List Loc) (ls : Array Slot), va_P G vwCl ((wMd cA qM zM)) H → va_D (adr W9) ((wMd cA qM zM)) → va_S (adr W9) s.heap H locs → lv_has ls 2 [(0, .ref (qM 0)), (1, .int a1)] → f_X7_want zM a1 = some res → W p l e rm_X7_want s m args below meth c H locs 0 0 (MQ below (qWv G W9 ((wMd cA qM res))) args s 0 0 (adr W9)) (F0 m 0 ls []) := by
  obtain ⟨hx, hb, hr, hml, hown, hts, hlocks, hK, hR, hRA⟩ := id C0
  intro zM a1 H locs ls hP hD hS hl hf
  unfold f_X7_want at hf
  refine lv_aload_n hx hb dX7_want_0 rfl (lv_at hl 0 rfl) ?_
  refine lv_iload_n hx hb dX7_want_1 rfl (lv_at hl 1 rfl) ?_
  obtain ⟨r_1, hr_1, hf⟩ := obd hf
  refine cWiV (As := [.int a1]) (rest := []) (W1 := ((wMd cA qM r_1.2))) ⟨hx, hb, hml, hown, hts⟩ (m_X7_takes l G cA qM zM a1 r_1 hr_1) (cw_X7_takes hts wi_742 ⟨Nat.le_of_ble_eq_true rfl, Nat.le_of_ble_eq_true rfl⟩) hK hP hD hS [0, 1, 2, 3, 4] [5, 6, 7, 8, 9] rfl rfl rfl (by decide) rfl va_Pnil dj_nil (va_recv hK.1 hP (ci := 5) (q0 := 0) rfl rfl) rfl hl.1 rfl (Nat.le_of_ble_eq_true rfl) dX7_want_2 ⟨Nat.zero_le _, Nat.zero_le _⟩ (fun H locs hP hD hS => ?_)
  refine lv_if_ne (tgt := 18) hx hb dX7_want_5 (by decide) (fun c_2 => ?_) (fun c_2 => ?_)
  · rw [if_pos (c_2)] at hf
    cases hf
    exact W.vret hx hb hr (fun t ht hW => ⟨⟨(), rfl, trivial, toT ht hP⟩, hS.F ht⟩) hS.2.2 dX7_want_18 hlocks
  · rw [if_neg (not_not_intro c_2)] at hf
    refine lv_aload_n hx hb dX7_want_8 rfl (lv_at hl 0 rfl) ?_
    refine lv_bipush (v := (-2 : Int32)) hx hb dX7_want_9 (by decide) ?_
    refine lv_aload_n hx hb dX7_want_11 rfl (lv_at hl 0 rfl) ?_
    refine va_get (D := G) (ci := 5) (v := .int (gM_at r_1.2)) (C := RX7) (T := TX7) (N := 13) hx hb hts fin_X7 hown hK.1 hP 0 rfl rfl 9 (by decide) (hts _ wi_680) (fun _ h9 => h9) rfl dX7_want_12 ?_
    obtain ⟨r_3, hr_3, hf⟩ := obd hf
    refine cWvV (As := [.int (-2 : Int32), .int (gM_at r_1.2)]) (rest := []) (W1 := ((wMd cA qM r_3))) ⟨hx, hb, hml, hown, hts⟩ (m_X7_wrong l G cA qM r_1.2 (-2 : Int32) (gM_at r_1.2) r_3 hr_3) (cw_X7_wrong hts wi_761 ⟨Nat.le_of_ble_eq_true rfl, Nat.le_of_ble_eq_true rfl⟩) hK hP hD hS [0, 1, 2, 3, 4] [5, 6, 7, 8, 9] rfl rfl rfl (by decide) rfl va_Pnil dj_nil (va_recv hK.1 hP (ci := 5) (q0 := 0) rfl rfl) rfl hl.1 rfl (Nat.le_of_ble_eq_true rfl) dX7_want_15 ⟨Nat.zero_le _, Nat.zero_le _⟩ (fun H locs hP hD hS => ?_)
    cases hf
    exact W.vret hx hb hr (fun t ht hW => ⟨⟨(), rfl, trivial, toT ht hP⟩, hS.F ht⟩) hS.2.2 dX7_want_18 hlocks

set_option maxRecDepth 100000 in
theorem m_X7_want (l : Launch) (G : va_G) (cA : Nat → ClassId) (qM : Nat → Nat) (zM : MdS) (a1 : Int32) (res : MdS) (hf : f_X7_want zM a1 = some res) : MWv l yX7_want (.code yX7_want cX7_want 2 none :: wd) rm_X7_want G cA [.ref (qM 0), .int a1] ((wMd cA qM zM)) [] ((wMd cA qM res)) := by
  refine Met.ofW (cc := cX7_want) (maxL := 2) (ret := none) (by decide) rfl ?_
  intro p e s m args below meth c s₁ B hml hv
  obtain ⟨rfl, hK, hP, hD0, hR, hRA⟩ := hv
  have C0 : Amb p s m ([.ref (qM 0), .int a1] : List Value).toArray meth c cX7_want RX7 2 none G cA (adr ((wMd cA qM zM))) [] := ⟨B.exec, B.bytes, B.returns, hml, findClass_of_methodNamed B.named, fun w h => atoms_spec (ws := (.code yX7_want cX7_want 2 none :: wd)) B.pre w (List.mem_cons_of_mem _ h), B.notSynchronized, hK, hR, hRA⟩
  have hl := lv_entry ([.ref (qM 0), .int a1]) (n := 2) (Nat.le_of_ble_eq_true rfl)
  rw [lg_entry_eq]
  generalize (lg_sl ([.ref (qM 0), .int a1]) ++ List.replicate (2 - (lg_sl ([.ref (qM 0), .int a1])).length) Slot.unset).toArray = ls at hl ⊢
  have hl : lv_has ls 2 [(0, .ref (qM 0)), (1, .int a1)] := hl
  exact b_X7_want_0 (W9 := ((wMd cA qM zM))) qM   C0 zM a1 s.heap [] ls hP (adr.self hD0) va_S.rf hl hf
theorem cw_X7_want {R : Room} {s : State} {args : Array Value} {own : String} {index : Nat} (ht : ∀ w ∈ wd, w.before args s = true) (hlink : Cond.methodLink own index yX7_want ∈ wd) (hR : rm_X7_want.frames + 1 ≤ R.frames ∧ 8 + (2 + 11) + rm_X7_want.locals ≤ R.locals) : CallW R s args own RX7 index yX7_want cX7_want 2 none (.code yX7_want cX7_want 2 none :: wd) rm_X7_want 0 0 1 := cwV9 1 ht wi_768 wi_767 wi_36 wi_60 hlink (by decide +kernel) rfl rfl hR
def rm_X7_readNumber : Room := { frames := 1, cells := 0, slots := 0, locals := 22 }
def f_X7_readNumber_124 (zM : MdS) (x3 : Int32) (x6 : Int32) : Option (Int32 × MdS) := (f_X7_wrong zM (-3 : Int32) x6).bind fun r_1 => some (x3, r_1)
set_option maxHeartbeats 4000000 in
set_option maxRecDepth 100000 in
theorem b_X7_readNumber_124 {p : Program} {l : Launch} {e : Env} {s : State} {m : MethodId} {args : Array Value} {below : List Frame} {meth : Method} {c : Code} {G : va_G} {cA : Nat → ClassId} {W9 : va_W} (qM : Nat → Nat) (C0 : Amb p s m args meth c cX7_readNumber RX7 7 (some .int) G cA (adr W9) []) {res : Int32 × MdS} : ∀ (zM : MdS) (x3 : Int32) (x6 : Int32) (H : Heap) (locs : List Loc) (ls : Array Slot), va_P G vwCl ((wMd cA qM zM)) H → va_D (adr W9) ((wMd cA qM zM)) → va_S (adr W9) s.heap H locs → lv_has ls 7 [(0, .ref (qM 0)), (3, .int x3), (6, .int x6)] → f_X7_readNumber_124 zM x3 x6 = some res → W p l e rm_X7_readNumber s m args below meth c H locs 0 0 (MQ below (qWi G W9 ((wMd cA qM res.2)) res.1) args s 0 0 (adr W9)) (F0 m 124 ls []) := by
  obtain ⟨hx, hb, hr, hml, hown, hts, hlocks, hK, hR, hRA⟩ := id C0
  intro zM x3 x6 H locs ls hP hD hS hl hf
  unfold f_X7_readNumber_124 at hf
  refine lv_aload_n hx hb dX7_readNumber_124 rfl (lv_at hl 0 rfl) ?_
  refine lv_bipush (v := (-3 : Int32)) hx hb dX7_readNumber_125 (by decide) ?_
  refine lv_iload hx hb dX7_readNumber_127 (lv_at hl 2 rfl) ?_
  obtain ⟨r_1, hr_1, hf⟩ := obd hf
  refine cWvV (As := [.int (-3 : Int32), .int x6]) (rest := []) (W1 := ((wMd cA qM r_1))) ⟨hx, hb, hml, hown, hts⟩ (m_X7_wrong l G cA qM zM (-3 : Int32) x6 r_1 hr_1) (cw_X7_wrong hts wi_761 ⟨Nat.le_of_ble_eq_true rfl, Nat.le_of_ble_eq_true rfl⟩) hK hP hD hS [0, 1, 2, 3, 4] [5, 6, 7, 8, 9] rfl rfl rfl (by decide) rfl va_Pnil dj_nil (va_recv hK.1 hP (ci := 5) (q0 := 0) rfl rfl) rfl hl.1 rfl (Nat.le_of_ble_eq_true rfl) dX7_readNumber_129 ⟨Nat.zero_le _, Nat.zero_le _⟩ (fun H locs hP hD hS => ?_)
  refine lv_iload_n hx hb dX7_readNumber_132 rfl (lv_at hl 1 rfl) ?_
  cases hf
  exact W.iret hx hb hr (fun t ht hW => ⟨⟨_, (), rfl, rfl, toT ht hP⟩, hS.F ht⟩) hS.2.2 dX7_readNumber_133 hlocks
def f_X7_readNumber_92 (zM : MdS) (x1 : Int32) (x2 : Int32) (x3 : Int32) (x4 : Int32) (x6 : Int32) : Option (Int32 × MdS) := if ¬ x4 = 0 then if x3 < x1 then f_X7_readNumber_124  zM x3 x6 else if x2 < 0 then some (x3, zM) else if x3 ≤ x2 then some (x3, zM) else f_X7_readNumber_124  zM x3 x6 else (f_X7_wrong zM (-2 : Int32) (gM_at zM)).bind fun r_5 => some (x3, r_5)
set_option maxHeartbeats 4000000 in
set_option maxRecDepth 100000 in
theorem b_X7_readNumber_92 {p : Program} {l : Launch} {e : Env} {s : State} {m : MethodId} {args : Array Value} {below : List Frame} {meth : Method} {c : Code} {G : va_G} {cA : Nat → ClassId} {W9 : va_W} (qM : Nat → Nat) (C0 : Amb p s m args meth c cX7_readNumber RX7 7 (some .int) G cA (adr W9) []) {res : Int32 × MdS} : ∀ (zM : MdS) (x1 : Int32) (x2 : Int32) (x3 : Int32) (x4 : Int32) (x6 : Int32) (H : Heap) (locs : List Loc) (ls : Array Slot), va_P G vwCl ((wMd cA qM zM)) H → va_D (adr W9) ((wMd cA qM zM)) → va_S (adr W9) s.heap H locs → lv_has ls 7 [(0, .ref (qM 0)), (1, .int x1), (2, .int x2), (3, .int x3), (4, .int x4), (6, .int x6)] → f_X7_readNumber_92 zM x1 x2 x3 x4 x6 = some res → W p l e rm_X7_readNumber s m args below meth c H locs 0 0 (MQ below (qWi G W9 ((wMd cA qM res.2)) res.1) args s 0 0 (adr W9)) (F0 m 92 ls []) := by
  obtain ⟨hx, hb, hr, hml, hown, hts, hlocks, hK, hR, hRA⟩ := id C0
  intro zM x1 x2 x3 x4 x6 H locs ls hP hD hS hl hf
  unfold f_X7_readNumber_92 at hf
  refine lv_iload hx hb dX7_readNumber_92 (lv_at hl 4 rfl) ?_
  refine lv_if_ne (tgt := 110) hx hb dX7_readNumber_94 (by decide) (fun c_1 => ?_) (fun c_1 => ?_)
  · rw [if_pos (c_1)] at hf
    refine lv_iload_n hx hb dX7_readNumber_110 rfl (lv_at hl 3 rfl) ?_
    refine lv_iload_n hx hb dX7_readNumber_111 rfl (lv_at hl 1 rfl) ?_
    refine lv_icmp_lt (tgt := 124) hx hb dX7_readNumber_112 (by decide) (fun c_2 => ?_) (fun c_2 => ?_)
    · rw [if_pos (c_2)] at hf
      exact b_X7_readNumber_124 qM   C0  zM x3 x6 H locs ls hP hD hS (lv_sub hl [0, 3, 5] rfl) hf
    · rw [if_neg (c_2)] at hf
      refine lv_iload_n hx hb dX7_readNumber_115 rfl (lv_at hl 2 rfl) ?_
      refine lv_if_lt (tgt := 132) hx hb dX7_readNumber_116 (by decide) (fun c_3 => ?_) (fun c_3 => ?_)
      · rw [if_pos (c_3)] at hf
        refine lv_iload_n hx hb dX7_readNumber_132 rfl (lv_at hl 3 rfl) ?_
        cases hf
        exact W.iret hx hb hr (fun t ht hW => ⟨⟨_, (), rfl, rfl, toT ht hP⟩, hS.F ht⟩) hS.2.2 dX7_readNumber_133 hlocks
      · rw [if_neg (c_3)] at hf
        refine lv_iload_n hx hb dX7_readNumber_119 rfl (lv_at hl 3 rfl) ?_
        refine lv_iload_n hx hb dX7_readNumber_120 rfl (lv_at hl 2 rfl) ?_
        refine lv_icmp_le (tgt := 132) hx hb dX7_readNumber_121 (by decide) (fun c_4 => ?_) (fun c_4 => ?_)
        · rw [if_pos (c_4)] at hf
          refine lv_iload_n hx hb dX7_readNumber_132 rfl (lv_at hl 3 rfl) ?_
          cases hf
          exact W.iret hx hb hr (fun t ht hW => ⟨⟨_, (), rfl, rfl, toT ht hP⟩, hS.F ht⟩) hS.2.2 dX7_readNumber_133 hlocks
        · rw [if_neg (c_4)] at hf
          exact b_X7_readNumber_124 qM   C0  zM x3 x6 H locs ls hP hD hS (lv_sub hl [0, 3, 5] rfl) hf
  · rw [if_neg (not_not_intro c_1)] at hf
    refine lv_aload_n hx hb dX7_readNumber_97 rfl (lv_at hl 0 rfl) ?_
    refine lv_bipush (v := (-2 : Int32)) hx hb dX7_readNumber_98 (by decide) ?_
    refine lv_aload_n hx hb dX7_readNumber_100 rfl (lv_at hl 0 rfl) ?_
    refine va_get (D := G) (ci := 5) (v := .int (gM_at zM)) (C := RX7) (T := TX7) (N := 13) hx hb hts fin_X7 hown hK.1 hP 0 rfl rfl 9 (by decide) (hts _ wi_680) (fun _ h9 => h9) rfl dX7_readNumber_101 ?_
    obtain ⟨r_5, hr_5, hf⟩ := obd hf
    refine cWvV (As := [.int (-2 : Int32), .int (gM_at zM)]) (rest := []) (W1 := ((wMd cA qM r_5))) ⟨hx, hb, hml, hown, hts⟩ (m_X7_wrong l G cA qM zM (-2 : Int32) (gM_at zM) r_5 hr_5) (cw_X7_wrong hts wi_761 ⟨Nat.le_of_ble_eq_true rfl, Nat.le_of_ble_eq_true rfl⟩) hK hP hD hS [0, 1, 2, 3, 4] [5, 6, 7, 8, 9] rfl rfl rfl (by decide) rfl va_Pnil dj_nil (va_recv hK.1 hP (ci := 5) (q0 := 0) rfl rfl) rfl hl.1 rfl (Nat.le_of_ble_eq_true rfl) dX7_readNumber_104 ⟨Nat.zero_le _, Nat.zero_le _⟩ (fun H locs hP hD hS => ?_)
    refine lv_goto (tgt := 132) hx hb dX7_readNumber_107 (by decide) ?_
    refine lv_iload_n hx hb dX7_readNumber_132 rfl (lv_at hl 3 rfl) ?_
    cases hf
    exact W.iret hx hb hr (fun t ht hW => ⟨⟨_, (), rfl, rfl, toT ht hP⟩, hS.F ht⟩) hS.2.2 dX7_readNumber_133 hlocks
def f_X7_readNumber_26  : Nat → MdS → Int32 → Int32 → Int32 → Int32 → Int32 → Option (Int32 × MdS)
  | 0, _, _, _, _, _, _ => none
  | fu + 1, zM, x1, x2, x3, x4, x6 => if (3 : Int32) ≤ x4 then f_X7_readNumber_92  zM x1 x2 x3 x4 x6 else if (gM_lineSize zM) ≤ (gM_at zM) then f_X7_readNumber_92  zM x1 x2 x3 x4 x6 else if inb (gM_at zM) 100 = true then (f_X7_isDigit (gM_line zM (gM_at zM).toNatClampNeg)).bind fun r_4 => if r_4 = 0 then f_X7_readNumber_92  zM x1 x2 x3 x4 x6 else if inb (gM_at zM) 100 = true then (some (((((10 : Int32) * x3) + (gM_line zM (gM_at zM).toNatClampNeg)) - (48 : Int32)))).bind fun y_7 => f_X7_readNumber_26  fu (uM_at zM ((gM_at zM) + (1 : Int32))) x1 x2 y_7 (x4 + 1) x6 else none else none
set_option maxHeartbeats 4000000 in
set_option maxRecDepth 100000 in
theorem b_X7_readNumber_26 {p : Program} {l : Launch} {e : Env} {s : State} {m : MethodId} {args : Array Value} {below : List Frame} {meth : Method} {c : Code} {G : va_G} {cA : Nat → ClassId} {W9 : va_W} (qM : Nat → Nat) (C0 : Amb p s m args meth c cX7_readNumber RX7 7 (some .int) G cA (adr W9) []) {res : Int32 × MdS} : ∀ (fu : Nat) (zM : MdS) (x1 : Int32) (x2 : Int32) (x3 : Int32) (x4 : Int32) (x6 : Int32) (H : Heap) (locs : List Loc) (ls : Array Slot), va_P G vwCl ((wMd cA qM zM)) H → va_D (adr W9) ((wMd cA qM zM)) → va_S (adr W9) s.heap H locs → lv_has ls 7 [(0, .ref (qM 0)), (1, .int x1), (2, .int x2), (3, .int x3), (4, .int x4), (6, .int x6)] → f_X7_readNumber_26 fu zM x1 x2 x3 x4 x6 = some res → W p l e rm_X7_readNumber s m args below meth c H locs 0 0 (MQ below (qWi G W9 ((wMd cA qM res.2)) res.1) args s 0 0 (adr W9)) (F0 m 26 ls []) := by
  obtain ⟨hx, hb, hr, hml, hown, hts, hlocks, hK, hR, hRA⟩ := id C0
  intro fu
  induction fu with
  | zero =>
    intro zM x1 x2 x3 x4 x6 H locs ls hP hD hS hl hf
    rw [f_X7_readNumber_26] at hf
    cases hf
  | succ fu ih =>
    intro zM x1 x2 x3 x4 x6 H locs ls hP hD hS hl hf
    rw [f_X7_readNumber_26] at hf
    refine lv_iload hx hb dX7_readNumber_26 (lv_at hl 4 rfl) ?_
    refine lv_iconst (v := 3) hx hb dX7_readNumber_28 (by decide) ?_
    refine lv_icmp_ge (tgt := 92) hx hb dX7_readNumber_29 (by decide) (fun c_1 => ?_) (fun c_1 => ?_)
    · rw [if_pos (c_1)] at hf
      exact b_X7_readNumber_92 qM   C0  zM x1 x2 x3 x4 x6 H locs ls hP hD hS (lv_sub hl [0, 1, 2, 3, 4, 5] rfl) hf
    · rw [if_neg (c_1)] at hf
      refine lv_aload_n hx hb dX7_readNumber_32 rfl (lv_at hl 0 rfl) ?_
      refine va_get (D := G) (ci := 5) (v := .int (gM_at zM)) (C := RX7) (T := TX7) (N := 13) hx hb hts fin_X7 hown hK.1 hP 0 rfl rfl 9 (by decide) (hts _ wi_680) (fun _ h9 => h9) rfl dX7_readNumber_33 ?_
      refine lv_aload_n hx hb dX7_readNumber_36 rfl (lv_at hl 0 rfl) ?_
      refine va_get (D := G) (ci := 5) (v := .int (gM_lineSize zM)) (C := RX7) (T := TX7) (N := 13) hx hb hts fin_X7 hown hK.1 hP 0 rfl rfl 2 (by decide) (hts _ wi_673) (fun _ h9 => h9) rfl dX7_readNumber_37 ?_
      refine lv_icmp_ge (tgt := 92) hx hb dX7_readNumber_40 (by decide) (fun c_2 => ?_) (fun c_2 => ?_)
      · rw [if_pos (c_2)] at hf
        exact b_X7_readNumber_92 qM   C0  zM x1 x2 x3 x4 x6 H locs ls hP hD hS (lv_sub hl [0, 1, 2, 3, 4, 5] rfl) hf
      · rw [if_neg (c_2)] at hf
        refine lv_aload_n hx hb dX7_readNumber_43 rfl (lv_at hl 0 rfl) ?_
        refine va_get (D := G) (ci := 5) (v := .ref (qM 1)) (C := RX7) (T := TX7) (N := 13) hx hb hts fin_X7 hown hK.1 hP 0 rfl rfl 1 (by decide) (hts _ wi_672) (fun _ h9 => h9) rfl dX7_readNumber_44 ?_
        refine lv_aload_n hx hb dX7_readNumber_47 rfl (lv_at hl 0 rfl) ?_
        refine va_get (D := G) (ci := 5) (v := .int (gM_at zM)) (C := RX7) (T := TX7) (N := 13) hx hb hts fin_X7 hown hK.1 hP 0 rfl rfl 9 (by decide) (hts _ wi_680) (fun _ h9 => h9) rfl dX7_readNumber_48 ?_
        obtain ⟨hi_3, hf⟩ := oif hf
        refine va_cald hx hb hK.1 hP 1 2 rfl rfl (inb_in hi_3) dX7_readNumber_51 ?_
        obtain ⟨r_4, hr_4, hf⟩ := obd hf
        refine cRiS (As := [.int (gM_line zM (gM_at zM).toNatClampNeg)]) (rest := []) ⟨hx, hb, hml, hown, hts⟩ (m_X7_isDigit l G cA (gM_line zM (gM_at zM).toNatClampNeg) r_4 hr_4) (cw_X7_isDigit hts wi_754 ⟨Nat.le_of_ble_eq_true rfl, Nat.le_of_ble_eq_true rfl⟩) hK va_Pnil rfl hl.1 rfl (Nat.le_of_ble_eq_true rfl) dX7_readNumber_52 ⟨Nat.zero_le _, Nat.zero_le _⟩ ?_
        refine lv_if_eq (tgt := 92) hx hb dX7_readNumber_55 (by decide) (fun c_5 => ?_) (fun c_5 => ?_)
        · rw [if_pos (c_5)] at hf
          exact b_X7_readNumber_92 qM   C0  zM x1 x2 x3 x4 x6 H locs ls hP hD hS (lv_sub hl [0, 1, 2, 3, 4, 5] rfl) hf
        · rw [if_neg (c_5)] at hf
          refine lv_bipush (v := (10 : Int32)) hx hb dX7_readNumber_58 (by decide) ?_
          refine lv_iload_n hx hb dX7_readNumber_60 rfl (lv_at hl 3 rfl) ?_
          refine lv_imul hx hb dX7_readNumber_61 ?_
          refine lv_aload_n hx hb dX7_readNumber_62 rfl (lv_at hl 0 rfl) ?_
          refine va_get (D := G) (ci := 5) (v := .ref (qM 1)) (C := RX7) (T := TX7) (N := 13) hx hb hts fin_X7 hown hK.1 hP 0 rfl rfl 1 (by decide) (hts _ wi_672) (fun _ h9 => h9) rfl dX7_readNumber_63 ?_
          refine lv_aload_n hx hb dX7_readNumber_66 rfl (lv_at hl 0 rfl) ?_
          refine va_get (D := G) (ci := 5) (v := .int (gM_at zM)) (C := RX7) (T := TX7) (N := 13) hx hb hts fin_X7 hown hK.1 hP 0 rfl rfl 9 (by decide) (hts _ wi_680) (fun _ h9 => h9) rfl dX7_readNumber_67 ?_
          obtain ⟨hi_6, hf⟩ := oif hf
          refine va_cald hx hb hK.1 hP 1 2 rfl rfl (inb_in hi_6) dX7_readNumber_70 ?_
          refine lv_iadd hx hb dX7_readNumber_71 ?_
          refine lv_bipush (v := (48 : Int32)) hx hb dX7_readNumber_72 (by decide) ?_
          refine lv_isub hx hb dX7_readNumber_74 ?_
          obtain ⟨y_7, hq, hf⟩ := obd hf
          have hy_7 : ((((10 : Int32) * x3) + (gM_line zM (gM_at zM).toNatClampNeg)) - (48 : Int32)) = y_7 := Option.some.inj hq
          rw [hy_7]
          refine lv_istore_n (lv' := [(3, .int y_7), (0, .ref (qM 0)), (1, .int x1), (2, .int x2), (4, .int x4), (6, .int x6)]) hx hb dX7_readNumber_75 rfl hl (by decide) rfl (fun ls hl => ?_)
          refine lv_aload_n hx hb dX7_readNumber_76 rfl (lv_at hl 1 rfl) ?_
          refine lv_dup hx hb dX7_readNumber_77 rfl ?_
          refine va_get (D := G) (ci := 5) (v := .int (gM_at zM)) (C := RX7) (T := TX7) (N := 13) hx hb hts fin_X7 hown hK.1 hP 0 rfl rfl 9 (by decide) (hts _ wi_680) (fun _ h9 => h9) rfl dX7_readNumber_78 ?_
          refine lv_iconst (v := 1) hx hb dX7_readNumber_81 (by decide) ?_
          refine lv_iadd hx hb dX7_readNumber_82 ?_
          refine va_put (D := G) (ci := 5) (v := .int ((gM_at zM) + (1 : Int32))) (ty := .int) (C := RX7) (T := TX7) (N := 13) hx hb hts fin_X7 tyX7 tyX7_ok nmX7 hown hK.1 hP hD hS 0 rfl rfl 9 (by decide) (hts _ wi_680) (fun _ h9 => h9) rfl (by decide +kernel) rfl rfl (Nat.le_of_ble_eq_true rfl) dX7_readNumber_83 (fun H locs hP hD hS => ?_)
          have hP : va_P G vwCl ((wMd cA qM (uM_at zM ((gM_at zM) + (1 : Int32))))) H := hP
          have hD : va_D (adr W9) ((wMd cA qM (uM_at zM ((gM_at zM) + (1 : Int32))))) := hD
          refine lv_iinc (v := (x4 + 1)) (lv' := [(4, .int (x4 + 1)), (3, .int y_7), (0, .ref (qM 0)), (1, .int x1), (2, .int x2), (6, .int x6)]) hx hb dX7_readNumber_86 hl (k := 4) rfl rfl (by decide) rfl (fun ls hl => ?_)
          refine lv_goto (tgt := 26) hx hb dX7_readNumber_89 (by decide) ?_
          exact ih (uM_at zM ((gM_at zM) + (1 : Int32))) x1 x2 y_7 (x4 + 1) x6 H locs ls hP hD hS (lv_sub hl [2, 3, 4, 1, 0, 5] rfl) hf
def f_X7_readNumber (zM : MdS) (a1 : Int32) (a2 : Int32) : Option (Int32 × MdS) := if (gM_fault zM) = 0 then (f_X7_next zM).bind fun r_2 => (some ((gM_at r_2.2))).bind fun y_3 => f_X7_readNumber_26 fuel r_2.2 a1 a2 (0 : Int32) (0 : Int32) y_3 else some ((0 : Int32), zM)
set_option maxHeartbeats 4000000 in
set_option maxRecDepth 100000 in
theorem b_X7_readNumber_0 {p : Program} {l : Launch} {e : Env} {s : State} {m : MethodId} {args : Array Value} {below : List Frame} {meth : Method} {c : Code} {G : va_G} {cA : Nat → ClassId} {W9 : va_W} (qM : Nat → Nat) (C0 : Amb p s m args meth c cX7_readNumber RX7 7 (some .int) G cA (adr W9) []) {res : Int32 × MdS} : ∀ (zM : MdS) (a1 : Int32) (a2 : Int32) (H : Heap) (locs : List Loc) (ls : Array Slot), va_P G vwCl ((wMd cA qM zM)) H → va_D (adr W9) ((wMd cA qM zM)) → va_S (adr W9) s.heap H locs → lv_has ls 7 [(0, .ref (qM 0)), (1, .int a1), (2, .int a2)] → f_X7_readNumber zM a1 a2 = some res → W p l e rm_X7_readNumber s m args below meth c H locs 0 0 (MQ below (qWi G W9 ((wMd cA qM res.2)) res.1) args s 0 0 (adr W9)) (F0 m 0 ls []) := by
  obtain ⟨hx, hb, hr, hml, hown, hts, hlocks, hK, hR, hRA⟩ := id C0
  intro zM a1 a2 H locs ls hP hD hS hl hf
  unfold f_X7_readNumber at hf
  refine lv_aload_n hx hb dX7_readNumber_0 rfl (lv_at hl 0 rfl) ?_
  refine va_get (D := G) (ci := 5) (v := .int (gM_fault zM)) (C := RX7) (T := TX7) (N := 13) hx hb hts fin_X7 hown hK.1 hP 0 rfl rfl 10 (by decide) (hts _ wi_681) (fun _ h9 => h9) rfl dX7_readNumber_1 ?_
  refine lv_if_eq (tgt := 9) hx hb dX7_readNumber_4 (by decide) (fun c_1 => ?_) (fun c_1 => ?_)
  · rw [if_pos (c_1)] at hf
    refine lv_iconst (v := 0) hx hb dX7_readNumber_9 (by decide) ?_
    refine lv_istore_n (lv' := [(3, .int (0 : Int32)), (0, .ref (qM 0)), (1, .int a1), (2, .int a2)]) hx hb dX7_readNumber_10 rfl hl (by decide) rfl (fun ls hl => ?_)
    refine lv_iconst (v := 0) hx hb dX7_readNumber_11 (by decide) ?_
    refine lv_istore (lv' := [(4, .int (0 : Int32)), (3, .int (0 : Int32)), (0, .ref (qM 0)), (1, .int a1), (2, .int a2)]) hx hb dX7_readNumber_12 hl (by decide) rfl (fun ls hl => ?_)
    refine lv_aload_n hx hb dX7_readNumber_14 rfl (lv_at hl 2 rfl) ?_
    obtain ⟨r_2, hr_2, hf⟩ := obd hf
    refine cWiV (As := []) (rest := []) (W1 := ((wMd cA qM r_2.2))) ⟨hx, hb, hml, hown, hts⟩ (m_X7_next l G cA qM zM r_2 hr_2) (cw_X7_next hts wi_746 ⟨Nat.le_of_ble_eq_true rfl, Nat.le_of_ble_eq_true rfl⟩) hK hP hD hS [0, 1, 2, 3, 4] [5, 6, 7, 8, 9] rfl rfl rfl (by decide) rfl va_Pnil dj_nil (va_recv hK.1 hP (ci := 5) (q0 := 0) rfl rfl) rfl hl.1 rfl (Nat.le_of_ble_eq_true rfl) dX7_readNumber_15 ⟨Nat.zero_le _, Nat.zero_le _⟩ (fun H locs hP hD hS => ?_)
    refine lv_istore (lv' := [(5, .int r_2.1), (4, .int (0 : Int32)), (3, .int (0 : Int32)), (0, .ref (qM 0)), (1, .int a1), (2, .int a2)]) hx hb dX7_readNumber_18 hl (by decide) rfl (fun ls hl => ?_)
    refine lv_aload_n hx hb dX7_readNumber_20 rfl (lv_at hl 3 rfl) ?_
    refine va_get (D := G) (ci := 5) (v := .int (gM_at r_2.2)) (C := RX7) (T := TX7) (N := 13) hx hb hts fin_X7 hown hK.1 hP 0 rfl rfl 9 (by decide) (hts _ wi_680) (fun _ h9 => h9) rfl dX7_readNumber_21 ?_
    obtain ⟨y_3, hq, hf⟩ := obd hf
    have hy_3 : (gM_at r_2.2) = y_3 := Option.some.inj hq
    rw [hy_3]
    refine lv_istore (lv' := [(6, .int y_3), (5, .int r_2.1), (4, .int (0 : Int32)), (3, .int (0 : Int32)), (0, .ref (qM 0)), (1, .int a1), (2, .int a2)]) hx hb dX7_readNumber_24 hl (by decide) rfl (fun ls hl => ?_)
    exact b_X7_readNumber_26 qM   C0  fuel r_2.2 a1 a2 (0 : Int32) (0 : Int32) y_3 H locs ls hP hD hS (lv_sub hl [4, 5, 6, 3, 2, 0] rfl) hf
  · rw [if_neg (c_1)] at hf
    refine lv_iconst (v := 0) hx hb dX7_readNumber_7 (by decide) ?_
    cases hf
    exact W.iret hx hb hr (fun t ht hW => ⟨⟨_, (), rfl, rfl, toT ht hP⟩, hS.F ht⟩) hS.2.2 dX7_readNumber_8 hlocks

set_option maxRecDepth 100000 in
theorem m_X7_readNumber (l : Launch) (G : va_G) (cA : Nat → ClassId) (qM : Nat → Nat) (zM : MdS) (a1 : Int32) (a2 : Int32) (res : Int32 × MdS) (hf : f_X7_readNumber zM a1 a2 = some res) : MWi l yX7_readNumber (.code yX7_readNumber cX7_readNumber 7 (some .int) :: wd) rm_X7_readNumber G cA [.ref (qM 0), .int a1, .int a2] ((wMd cA qM zM)) [] ((wMd cA qM res.2)) res.1 := by
  refine Met.ofW (cc := cX7_readNumber) (maxL := 7) (ret := (some .int)) (by decide) rfl ?_
  intro p e s m args below meth c s₁ B hml hv
  obtain ⟨rfl, hK, hP, hD0, hR, hRA⟩ := hv
  have C0 : Amb p s m ([.ref (qM 0), .int a1, .int a2] : List Value).toArray meth c cX7_readNumber RX7 7 (some .int) G cA (adr ((wMd cA qM zM))) [] := ⟨B.exec, B.bytes, B.returns, hml, findClass_of_methodNamed B.named, fun w h => atoms_spec (ws := (.code yX7_readNumber cX7_readNumber 7 (some .int) :: wd)) B.pre w (List.mem_cons_of_mem _ h), B.notSynchronized, hK, hR, hRA⟩
  have hl := lv_entry ([.ref (qM 0), .int a1, .int a2]) (n := 7) (Nat.le_of_ble_eq_true rfl)
  rw [lg_entry_eq]
  generalize (lg_sl ([.ref (qM 0), .int a1, .int a2]) ++ List.replicate (7 - (lg_sl ([.ref (qM 0), .int a1, .int a2])).length) Slot.unset).toArray = ls at hl ⊢
  have hl : lv_has ls 7 [(0, .ref (qM 0)), (1, .int a1), (2, .int a2)] := hl
  exact b_X7_readNumber_0 (W9 := ((wMd cA qM zM))) qM   C0 zM a1 a2 s.heap [] ls hP (adr.self hD0) va_S.rf hl hf
theorem cw_X7_readNumber {R : Room} {s : State} {args : Array Value} {own : String} {index : Nat} (ht : ∀ w ∈ wd, w.before args s = true) (hlink : Cond.methodLink own index yX7_readNumber ∈ wd) (hR : rm_X7_readNumber.frames + 1 ≤ R.frames ∧ 8 + (7 + 11) + rm_X7_readNumber.locals ≤ R.locals) : CallW R s args own RX7 index yX7_readNumber cX7_readNumber 7 (some .int) (.code yX7_readNumber cX7_readNumber 7 (some .int) :: wd) rm_X7_readNumber 0 0 2 := cwV9 2 ht wi_760 wi_759 wi_34 wi_60 hlink (by decide +kernel) rfl rfl hR
def rm_X7_checkAll : Room := { frames := 1, cells := 0, slots := 0, locals := 21 }
def f_X7_checkAll_38 (kb_4 : MdS → Int32 → Option (MdS)) (zM : MdS) (x1 : Int32) : Option (MdS) := kb_4 zM (x1 + 1)
set_option maxHeartbeats 4000000 in
set_option maxRecDepth 100000 in
theorem b_X7_checkAll_38 {p : Program} {l : Launch} {e : Env} {s : State} {m : MethodId} {args : Array Value} {below : List Frame} {meth : Method} {c : Code} {G : va_G} {cA : Nat → ClassId} {W9 : va_W} (qM : Nat → Nat) (C0 : Amb p s m args meth c cX7_checkAll RX7 2 none G cA (adr W9) []) {res : MdS} (kb_4 : MdS → Int32 → Option (MdS)) (hkb_4 : ∀ (zM : MdS) (x1 : Int32) (H : Heap) (locs : List Loc) (ls : Array Slot), va_P G vwCl ((wMd cA qM zM)) H → va_D (adr W9) ((wMd cA qM zM)) → va_S (adr W9) s.heap H locs → lv_has ls 2 [(0, .ref (qM 0)), (1, .int x1)] → kb_4 zM x1 = some res → W p l e rm_X7_checkAll s m args below meth c H locs 0 0 (MQ below (qWv G W9 ((wMd cA qM res))) args s 0 0 (adr W9)) (F0 m 4 ls [])) : ∀ (zM : MdS) (x1 : Int32) (H : Heap) (locs : List Loc) (ls : Array Slot), va_P G vwCl ((wMd cA qM zM)) H → va_D (adr W9) ((wMd cA qM zM)) → va_S (adr W9) s.heap H locs → lv_has ls 2 [(0, .ref (qM 0)), (1, .int x1)] → f_X7_checkAll_38 kb_4 zM x1 = some res → W p l e rm_X7_checkAll s m args below meth c H locs 0 0 (MQ below (qWv G W9 ((wMd cA qM res))) args s 0 0 (adr W9)) (F0 m 38 ls []) := by
  obtain ⟨hx, hb, hr, hml, hown, hts, hlocks, hK, hR, hRA⟩ := id C0
  intro zM x1 H locs ls hP hD hS hl hf
  unfold f_X7_checkAll_38 at hf
  refine lv_iinc (v := (x1 + 1)) (lv' := [(1, .int (x1 + 1)), (0, .ref (qM 0))]) hx hb dX7_checkAll_38 hl (k := 1) rfl rfl (by decide) rfl (fun ls hl => ?_)
  refine lv_goto (tgt := 4) hx hb dX7_checkAll_41 (by decide) ?_
  exact hkb_4 zM (x1 + 1) H locs ls hP hD hS (lv_sub hl [1, 0] rfl) hf
def f_X7_checkAll_4  : Nat → MdS → Int32 → Option (MdS)
  | 0, _, _ => none
  | fu + 1, zM, x1 => if (10350 : Int32) ≤ x1 then some zM else (f_X7_isOut zM x1).bind fun r_2 => if r_2 = 0 then f_X7_checkAll_38 (fun zM_ x1_ => f_X7_checkAll_4  fu zM_ x1_) zM x1 else if inb x1 11500 = true then if inb x1 11500 = true then f_X7_checkAll_38 (fun zM_ x1_ => f_X7_checkAll_4  fu zM_ x1_) (uM_down (uM_up (uM_isFull zM (1 : Int32)) (vp_updL (gM_up (uM_isFull zM (1 : Int32))) x1.toNatClampNeg (0 : Int64))) (vp_updL (gM_down (uM_up (uM_isFull zM (1 : Int32)) (vp_updL (gM_up (uM_isFull zM (1 : Int32))) x1.toNatClampNeg (0 : Int64)))) x1.toNatClampNeg (1 : Int64))) x1 else none else none
set_option maxHeartbeats 4000000 in
set_option maxRecDepth 100000 in
theorem b_X7_checkAll_4 {p : Program} {l : Launch} {e : Env} {s : State} {m : MethodId} {args : Array Value} {below : List Frame} {meth : Method} {c : Code} {G : va_G} {cA : Nat → ClassId} {W9 : va_W} (qM : Nat → Nat) (C0 : Amb p s m args meth c cX7_checkAll RX7 2 none G cA (adr W9) []) {res : MdS} : ∀ (fu : Nat) (zM : MdS) (x1 : Int32) (H : Heap) (locs : List Loc) (ls : Array Slot), va_P G vwCl ((wMd cA qM zM)) H → va_D (adr W9) ((wMd cA qM zM)) → va_S (adr W9) s.heap H locs → lv_has ls 2 [(0, .ref (qM 0)), (1, .int x1)] → f_X7_checkAll_4 fu zM x1 = some res → W p l e rm_X7_checkAll s m args below meth c H locs 0 0 (MQ below (qWv G W9 ((wMd cA qM res))) args s 0 0 (adr W9)) (F0 m 4 ls []) := by
  obtain ⟨hx, hb, hr, hml, hown, hts, hlocks, hK, hR, hRA⟩ := id C0
  intro fu
  induction fu with
  | zero =>
    intro zM x1 H locs ls hP hD hS hl hf
    rw [f_X7_checkAll_4] at hf
    cases hf
  | succ fu ih =>
    intro zM x1 H locs ls hP hD hS hl hf
    rw [f_X7_checkAll_4] at hf
    refine lv_iload_n hx hb dX7_checkAll_4 rfl (lv_at hl 1 rfl) ?_
    refine lv_sipush (v := (10350 : Int32)) hx hb dX7_checkAll_5 (by decide) ?_
    refine lv_icmp_ge (tgt := 44) hx hb dX7_checkAll_8 (by decide) (fun c_1 => ?_) (fun c_1 => ?_)
    · rw [if_pos (c_1)] at hf
      cases hf
      exact W.vret hx hb hr (fun t ht hW => ⟨⟨(), rfl, trivial, toT ht hP⟩, hS.F ht⟩) hS.2.2 dX7_checkAll_44 hlocks
    · rw [if_neg (c_1)] at hf
      refine lv_aload_n hx hb dX7_checkAll_11 rfl (lv_at hl 0 rfl) ?_
      refine lv_iload_n hx hb dX7_checkAll_12 rfl (lv_at hl 1 rfl) ?_
      obtain ⟨r_2, hr_2, hf⟩ := obd hf
      refine cRiV (As := [.int x1]) (rest := []) ⟨hx, hb, hml, hown, hts⟩ (m_X7_isOut l G cA qM zM x1 r_2 hr_2) (cw_X7_isOut hts wi_783 ⟨Nat.le_of_ble_eq_true rfl, Nat.le_of_ble_eq_true rfl⟩) hK (pk hP [0, 1, 2, 3, 4] rfl) (va_recv hK.1 hP (ci := 5) (q0 := 0) rfl rfl) rfl hl.1 rfl (Nat.le_of_ble_eq_true rfl) dX7_checkAll_13 ⟨Nat.zero_le _, Nat.zero_le _⟩ ?_
      refine lv_if_eq (tgt := 38) hx hb dX7_checkAll_16 (by decide) (fun c_3 => ?_) (fun c_3 => ?_)
      · rw [if_pos (c_3)] at hf
        exact b_X7_checkAll_38 qM   C0 (fun zM_ x1_ => f_X7_checkAll_4  fu zM_ x1_) ih zM x1 H locs ls hP hD hS (lv_sub hl [0, 1] rfl) hf
      · rw [if_neg (c_3)] at hf
        refine lv_aload_n hx hb dX7_checkAll_19 rfl (lv_at hl 0 rfl) ?_
        refine lv_iconst (v := 1) hx hb dX7_checkAll_20 (by decide) ?_
        refine va_put (D := G) (ci := 5) (v := .int (1 : Int32)) (ty := .boolean) (C := RX7) (T := TX7) (N := 13) hx hb hts fin_X7 tyX7 tyX7_ok nmX7 hown hK.1 hP hD hS 0 rfl rfl 8 (by decide) (hts _ wi_679) (fun _ h9 => h9) rfl (by decide +kernel) (by decide) (by decide) (Nat.le_of_ble_eq_true rfl) dX7_checkAll_21 (fun H locs hP hD hS => ?_)
        have hP : va_P G vwCl ((wMd cA qM (uM_isFull zM (1 : Int32)))) H := hP
        have hD : va_D (adr W9) ((wMd cA qM (uM_isFull zM (1 : Int32)))) := hD
        refine lv_aload_n hx hb dX7_checkAll_24 rfl (lv_at hl 0 rfl) ?_
        refine va_get (D := G) (ci := 5) (v := .ref (qM 3)) (C := RX7) (T := TX7) (N := 13) hx hb hts fin_X7 hown hK.1 hP 0 rfl rfl 6 (by decide) (hts _ wi_677) (fun _ h9 => h9) rfl dX7_checkAll_25 ?_
        refine lv_iload_n hx hb dX7_checkAll_28 rfl (lv_at hl 1 rfl) ?_
        refine lv_lconst (v := (0 : Int64)) hx hb dX7_checkAll_29 (by decide) ?_
        obtain ⟨hi_4, hf⟩ := oif hf
        refine va_last hx hb hK.1 hP hD hS 3 1 rfl rfl (inb_in hi_4) dX7_checkAll_30 (fun H locs hP hD hS => ?_)
        have hP : va_P G vwCl ((wMd cA qM (uM_up (uM_isFull zM (1 : Int32)) (vp_updL (gM_up (uM_isFull zM (1 : Int32))) x1.toNatClampNeg (0 : Int64))))) H := hP
        have hD : va_D (adr W9) ((wMd cA qM (uM_up (uM_isFull zM (1 : Int32)) (vp_updL (gM_up (uM_isFull zM (1 : Int32))) x1.toNatClampNeg (0 : Int64))))) := hD
        refine lv_aload_n hx hb dX7_checkAll_31 rfl (lv_at hl 0 rfl) ?_
        refine va_get (D := G) (ci := 5) (v := .ref (qM 4)) (C := RX7) (T := TX7) (N := 13) hx hb hts fin_X7 hown hK.1 hP 0 rfl rfl 7 (by decide) (hts _ wi_678) (fun _ h9 => h9) rfl dX7_checkAll_32 ?_
        refine lv_iload_n hx hb dX7_checkAll_35 rfl (lv_at hl 1 rfl) ?_
        refine lv_lconst (v := (1 : Int64)) hx hb dX7_checkAll_36 (by decide) ?_
        obtain ⟨hi_5, hf⟩ := oif hf
        refine va_last hx hb hK.1 hP hD hS 4 1 rfl rfl (inb_in hi_5) dX7_checkAll_37 (fun H locs hP hD hS => ?_)
        have hP : va_P G vwCl ((wMd cA qM (uM_down (uM_up (uM_isFull zM (1 : Int32)) (vp_updL (gM_up (uM_isFull zM (1 : Int32))) x1.toNatClampNeg (0 : Int64))) (vp_updL (gM_down (uM_up (uM_isFull zM (1 : Int32)) (vp_updL (gM_up (uM_isFull zM (1 : Int32))) x1.toNatClampNeg (0 : Int64)))) x1.toNatClampNeg (1 : Int64))))) H := hP
        have hD : va_D (adr W9) ((wMd cA qM (uM_down (uM_up (uM_isFull zM (1 : Int32)) (vp_updL (gM_up (uM_isFull zM (1 : Int32))) x1.toNatClampNeg (0 : Int64))) (vp_updL (gM_down (uM_up (uM_isFull zM (1 : Int32)) (vp_updL (gM_up (uM_isFull zM (1 : Int32))) x1.toNatClampNeg (0 : Int64)))) x1.toNatClampNeg (1 : Int64))))) := hD
        exact b_X7_checkAll_38 qM   C0 (fun zM_ x1_ => f_X7_checkAll_4  fu zM_ x1_) ih (uM_down (uM_up (uM_isFull zM (1 : Int32)) (vp_updL (gM_up (uM_isFull zM (1 : Int32))) x1.toNatClampNeg (0 : Int64))) (vp_updL (gM_down (uM_up (uM_isFull zM (1 : Int32)) (vp_updL (gM_up (uM_isFull zM (1 : Int32))) x1.toNatClampNeg (0 : Int64)))) x1.toNatClampNeg (1 : Int64))) x1 H locs ls hP hD hS (lv_sub hl [0, 1] rfl) hf
def f_X7_checkAll (zM : MdS) : Option (MdS) := f_X7_checkAll_4 fuel zM (9200 : Int32)
set_option maxHeartbeats 4000000 in
set_option maxRecDepth 100000 in
theorem b_X7_checkAll_0 {p : Program} {l : Launch} {e : Env} {s : State} {m : MethodId} {args : Array Value} {below : List Frame} {meth : Method} {c : Code} {G : va_G} {cA : Nat → ClassId} {W9 : va_W} (qM : Nat → Nat) (C0 : Amb p s m args meth c cX7_checkAll RX7 2 none G cA (adr W9) []) {res : MdS} : ∀ (zM : MdS) (H : Heap) (locs : List Loc) (ls : Array Slot), va_P G vwCl ((wMd cA qM zM)) H → va_D (adr W9) ((wMd cA qM zM)) → va_S (adr W9) s.heap H locs → lv_has ls 2 [(0, .ref (qM 0))] → f_X7_checkAll zM = some res → W p l e rm_X7_checkAll s m args below meth c H locs 0 0 (MQ below (qWv G W9 ((wMd cA qM res))) args s 0 0 (adr W9)) (F0 m 0 ls []) := by
  obtain ⟨hx, hb, hr, hml, hown, hts, hlocks, hK, hR, hRA⟩ := id C0
  intro zM H locs ls hP hD hS hl hf
  unfold f_X7_checkAll at hf
  refine lv_sipush (v := (9200 : Int32)) hx hb dX7_checkAll_0 (by decide) ?_
  refine lv_istore_n (lv' := [(1, .int (9200 : Int32)), (0, .ref (qM 0))]) hx hb dX7_checkAll_3 rfl hl (by decide) rfl (fun ls hl => ?_)
  exact b_X7_checkAll_4 qM   C0  fuel zM (9200 : Int32) H locs ls hP hD hS (lv_sub hl [1, 0] rfl) hf

set_option maxRecDepth 100000 in
theorem m_X7_checkAll (l : Launch) (G : va_G) (cA : Nat → ClassId) (qM : Nat → Nat) (zM : MdS) (res : MdS) (hf : f_X7_checkAll zM = some res) : MWv l yX7_checkAll (.code yX7_checkAll cX7_checkAll 2 none :: wd) rm_X7_checkAll G cA [.ref (qM 0)] ((wMd cA qM zM)) [] ((wMd cA qM res)) := by
  refine Met.ofW (cc := cX7_checkAll) (maxL := 2) (ret := none) (by decide) rfl ?_
  intro p e s m args below meth c s₁ B hml hv
  obtain ⟨rfl, hK, hP, hD0, hR, hRA⟩ := hv
  have C0 : Amb p s m ([.ref (qM 0)] : List Value).toArray meth c cX7_checkAll RX7 2 none G cA (adr ((wMd cA qM zM))) [] := ⟨B.exec, B.bytes, B.returns, hml, findClass_of_methodNamed B.named, fun w h => atoms_spec (ws := (.code yX7_checkAll cX7_checkAll 2 none :: wd)) B.pre w (List.mem_cons_of_mem _ h), B.notSynchronized, hK, hR, hRA⟩
  have hl := lv_entry ([.ref (qM 0)]) (n := 2) (Nat.le_of_ble_eq_true rfl)
  rw [lg_entry_eq]
  generalize (lg_sl ([.ref (qM 0)]) ++ List.replicate (2 - (lg_sl ([.ref (qM 0)])).length) Slot.unset).toArray = ls at hl ⊢
  have hl : lv_has ls 2 [(0, .ref (qM 0))] := hl
  exact b_X7_checkAll_0 (W9 := ((wMd cA qM zM))) qM   C0 zM s.heap [] ls hP (adr.self hD0) va_S.rf hl hf
theorem cw_X7_checkAll {R : Room} {s : State} {args : Array Value} {own : String} {index : Nat} (ht : ∀ w ∈ wd, w.before args s = true) (hlink : Cond.methodLink own index yX7_checkAll ∈ wd) (hR : rm_X7_checkAll.frames + 1 ≤ R.frames ∧ 8 + (2 + 11) + rm_X7_checkAll.locals ≤ R.locals) : CallW R s args own RX7 index yX7_checkAll cX7_checkAll 2 none (.code yX7_checkAll cX7_checkAll 2 none :: wd) rm_X7_checkAll 0 0 0 := cwV9 0 ht wi_782 wi_781 wi_38 wi_60 hlink (by decide +kernel) rfl rfl hR
def rm_X7_readTerm : Room := { frames := 3, cells := 0, slots := 0, locals := 68 }
def f_X7_readTerm_354 (zM : MdS) (x4 : Int64) (x10 : Int64) (v1 : Int32) (v2 : Int32) (v3 : Int32) (v4 : Int32) (v5 : Int64) : Option (MdS) := if ¬ x10 = 0 then if ¬ x10 = 0 then (f_X7_addTerm zM v1 v2 v3 v4 (v5 / x10) (x4 / x10)).bind fun r_3 => (f_X7_checkAll r_3).bind fun r_4 => some r_4 else none else none
set_option maxHeartbeats 4000000 in
set_option maxRecDepth 100000 in
theorem b_X7_readTerm_354 {p : Program} {l : Launch} {e : Env} {s : State} {m : MethodId} {args : Array Value} {below : List Frame} {meth : Method} {c : Code} {G : va_G} {cA : Nat → ClassId} {W9 : va_W} (qM : Nat → Nat) (C0 : Amb p s m args meth c cX7_readTerm RX7 12 none G cA (adr W9) []) {res : MdS} : ∀ (zM : MdS) (x4 : Int64) (x10 : Int64) (v1 : Int32) (v2 : Int32) (v3 : Int32) (v4 : Int32) (v5 : Int64) (H : Heap) (locs : List Loc) (ls : Array Slot), va_P G vwCl ((wMd cA qM zM)) H → va_D (adr W9) ((wMd cA qM zM)) → va_S (adr W9) s.heap H locs → lv_has ls 12 [(0, .ref (qM 0)), (4, .long x4), (10, .long x10)] → f_X7_readTerm_354 zM x4 x10 v1 v2 v3 v4 v5 = some res → W p l e rm_X7_readTerm s m args below meth c H locs 0 0 (MQ below (qWv G W9 ((wMd cA qM res))) args s 0 0 (adr W9)) (F0 m 354 ls [.long v5, .int v4, .int v3, .int v2, .int v1, .ref (qM 0)]) := by
  obtain ⟨hx, hb, hr, hml, hown, hts, hlocks, hK, hR, hRA⟩ := id C0
  intro zM x4 x10 v1 v2 v3 v4 v5 H locs ls hP hD hS hl hf
  unfold f_X7_readTerm_354 at hf
  refine lv_lload hx hb dX7_readTerm_354 (lv_at hl 2 rfl) ?_
  obtain ⟨hn_1, hf⟩ := oif hf
  refine lv_ldiv hx hb dX7_readTerm_356 hn_1 ?_
  refine lv_lload hx hb dX7_readTerm_357 (lv_at hl 1 rfl) ?_
  refine lv_lload hx hb dX7_readTerm_359 (lv_at hl 2 rfl) ?_
  obtain ⟨hn_2, hf⟩ := oif hf
  refine lv_ldiv hx hb dX7_readTerm_361 hn_2 ?_
  obtain ⟨r_3, hr_3, hf⟩ := obd hf
  refine cWvV (As := [.int v1, .int v2, .int v3, .int v4, .long (v5 / x10), .long (x4 / x10)]) (rest := []) (W1 := ((wMd cA qM r_3))) ⟨hx, hb, hml, hown, hts⟩ (m_X7_addTerm l G cA qM zM v1 v2 v3 v4 (v5 / x10) (x4 / x10) r_3 hr_3) (cw_X7_addTerm hts wi_772 ⟨Nat.le_of_ble_eq_true rfl, Nat.le_of_ble_eq_true rfl⟩) hK hP hD hS [0, 1, 2, 3, 4] [5, 6, 7, 8, 9] rfl rfl rfl (by decide) rfl va_Pnil dj_nil (va_recv hK.1 hP (ci := 5) (q0 := 0) rfl rfl) rfl hl.1 rfl (Nat.le_of_ble_eq_true rfl) dX7_readTerm_362 ⟨Nat.zero_le _, Nat.zero_le _⟩ (fun H locs hP hD hS => ?_)
  refine lv_aload_n hx hb dX7_readTerm_365 rfl (lv_at hl 0 rfl) ?_
  obtain ⟨r_4, hr_4, hf⟩ := obd hf
  refine cWvV (As := []) (rest := []) (W1 := ((wMd cA qM r_4))) ⟨hx, hb, hml, hown, hts⟩ (m_X7_checkAll l G cA qM r_3 r_4 hr_4) (cw_X7_checkAll hts wi_779 ⟨Nat.le_of_ble_eq_true rfl, Nat.le_of_ble_eq_true rfl⟩) hK hP hD hS [0, 1, 2, 3, 4] [5, 6, 7, 8, 9] rfl rfl rfl (by decide) rfl va_Pnil dj_nil (va_recv hK.1 hP (ci := 5) (q0 := 0) rfl rfl) rfl hl.1 rfl (Nat.le_of_ble_eq_true rfl) dX7_readTerm_366 ⟨Nat.zero_le _, Nat.zero_le _⟩ (fun H locs hP hD hS => ?_)
  cases hf
  exact W.vret hx hb hr (fun t ht hW => ⟨⟨(), rfl, trivial, toT ht hP⟩, hS.F ht⟩) hS.2.2 dX7_readTerm_369 hlocks
def f_X7_readTerm_320 (zM : MdS) (x1 : Int32) (x2 : Int64) (x4 : Int64) (x6 : Int32) (x7 : Int32) (x8 : Int32) : Option (MdS) := if ¬ (gM_fault zM) = 0 then some zM else (f_X7_gcd x2 x4).bind fun r_2 => if x1 = 0 then f_X7_readTerm_354  zM x4 r_2 (8 : Int32) x7 x8 x6 x2 else f_X7_readTerm_354  zM x4 r_2 (8 : Int32) x7 x8 x6 (-x2)
set_option maxHeartbeats 4000000 in
set_option maxRecDepth 100000 in
theorem b_X7_readTerm_320 {p : Program} {l : Launch} {e : Env} {s : State} {m : MethodId} {args : Array Value} {below : List Frame} {meth : Method} {c : Code} {G : va_G} {cA : Nat → ClassId} {W9 : va_W} (qM : Nat → Nat) (C0 : Amb p s m args meth c cX7_readTerm RX7 12 none G cA (adr W9) []) {res : MdS} : ∀ (zM : MdS) (x1 : Int32) (x2 : Int64) (x4 : Int64) (x6 : Int32) (x7 : Int32) (x8 : Int32) (H : Heap) (locs : List Loc) (ls : Array Slot), va_P G vwCl ((wMd cA qM zM)) H → va_D (adr W9) ((wMd cA qM zM)) → va_S (adr W9) s.heap H locs → lv_has ls 12 [(0, .ref (qM 0)), (1, .int x1), (2, .long x2), (4, .long x4), (6, .int x6), (7, .int x7), (8, .int x8)] → f_X7_readTerm_320 zM x1 x2 x4 x6 x7 x8 = some res → W p l e rm_X7_readTerm s m args below meth c H locs 0 0 (MQ below (qWv G W9 ((wMd cA qM res))) args s 0 0 (adr W9)) (F0 m 320 ls []) := by
  obtain ⟨hx, hb, hr, hml, hown, hts, hlocks, hK, hR, hRA⟩ := id C0
  intro zM x1 x2 x4 x6 x7 x8 H locs ls hP hD hS hl hf
  unfold f_X7_readTerm_320 at hf
  refine lv_aload_n hx hb dX7_readTerm_320 rfl (lv_at hl 0 rfl) ?_
  refine va_get (D := G) (ci := 5) (v := .int (gM_fault zM)) (C := RX7) (T := TX7) (N := 13) hx hb hts fin_X7 hown hK.1 hP 0 rfl rfl 10 (by decide) (hts _ wi_681) (fun _ h9 => h9) rfl dX7_readTerm_321 ?_
  refine lv_if_ne (tgt := 369) hx hb dX7_readTerm_324 (by decide) (fun c_1 => ?_) (fun c_1 => ?_)
  · rw [if_pos (c_1)] at hf
    cases hf
    exact W.vret hx hb hr (fun t ht hW => ⟨⟨(), rfl, trivial, toT ht hP⟩, hS.F ht⟩) hS.2.2 dX7_readTerm_369 hlocks
  · rw [if_neg (not_not_intro c_1)] at hf
    refine lv_lload_n hx hb dX7_readTerm_327 rfl (lv_at hl 2 rfl) ?_
    refine lv_lload hx hb dX7_readTerm_328 (lv_at hl 3 rfl) ?_
    obtain ⟨r_2, hr_2, hf⟩ := obd hf
    refine cRlS (As := [.long x2, .long x4]) (rest := []) ⟨hx, hb, hml, hown, hts⟩ (m_X7_gcd l G cA x2 x4 r_2 hr_2) (cw_X7_gcd hts wi_769 ⟨Nat.le_of_ble_eq_true rfl, Nat.le_of_ble_eq_true rfl⟩) hK va_Pnil rfl hl.1 rfl (Nat.le_of_ble_eq_true rfl) dX7_readTerm_330 ⟨Nat.zero_le _, Nat.zero_le _⟩ ?_
    refine lv_lstore (lv' := [(10, .long r_2), (0, .ref (qM 0)), (1, .int x1), (2, .long x2), (4, .long x4), (6, .int x6), (7, .int x7), (8, .int x8)]) hx hb dX7_readTerm_333 hl (by decide) rfl (fun ls hl => ?_)
    refine lv_aload_n hx hb dX7_readTerm_335 rfl (lv_at hl 1 rfl) ?_
    refine lv_bipush (v := (8 : Int32)) hx hb dX7_readTerm_336 (by decide) ?_
    refine lv_iload hx hb dX7_readTerm_338 (lv_at hl 6 rfl) ?_
    refine lv_iload hx hb dX7_readTerm_340 (lv_at hl 7 rfl) ?_
    refine lv_iload hx hb dX7_readTerm_342 (lv_at hl 5 rfl) ?_
    refine lv_iload_n hx hb dX7_readTerm_344 rfl (lv_at hl 2 rfl) ?_
    refine lv_if_eq (tgt := 353) hx hb dX7_readTerm_345 (by decide) (fun c_3 => ?_) (fun c_3 => ?_)
    · rw [if_pos (c_3)] at hf
      refine lv_lload_n hx hb dX7_readTerm_353 rfl (lv_at hl 3 rfl) ?_
      exact b_X7_readTerm_354 qM   C0  zM x4 r_2 (8 : Int32) x7 x8 x6 x2 H locs ls hP hD hS (lv_sub hl [1, 4, 0] rfl) hf
    · rw [if_neg (c_3)] at hf
      refine lv_lload_n hx hb dX7_readTerm_348 rfl (lv_at hl 3 rfl) ?_
      refine lv_lneg hx hb dX7_readTerm_349 ?_
      refine lv_goto (tgt := 354) hx hb dX7_readTerm_350 (by decide) ?_
      exact b_X7_readTerm_354 qM   C0  zM x4 r_2 (8 : Int32) x7 x8 x6 (-x2) H locs ls hP hD hS (lv_sub hl [1, 4, 0] rfl) hf
def f_X7_readTerm_298 (zM : MdS) (x1 : Int32) (x2 : Int64) (x4 : Int64) (x6 : Int32) (x7 : Int32) (x8 : Int32) (x9 : Int32) : Option (MdS) := if ¬ (gM_fault zM) = 0 then f_X7_readTerm_320  zM x1 x2 x4 x6 x7 x8 else if ¬ x9 = 0 then f_X7_readTerm_320  zM x1 x2 x4 x6 x7 x8 else (f_X7_wrong zM (-2 : Int32) (gM_at zM)).bind fun r_3 => f_X7_readTerm_320  r_3 x1 x2 x4 x6 x7 x8
set_option maxHeartbeats 4000000 in
set_option maxRecDepth 100000 in
theorem b_X7_readTerm_298 {p : Program} {l : Launch} {e : Env} {s : State} {m : MethodId} {args : Array Value} {below : List Frame} {meth : Method} {c : Code} {G : va_G} {cA : Nat → ClassId} {W9 : va_W} (qM : Nat → Nat) (C0 : Amb p s m args meth c cX7_readTerm RX7 12 none G cA (adr W9) []) {res : MdS} : ∀ (zM : MdS) (x1 : Int32) (x2 : Int64) (x4 : Int64) (x6 : Int32) (x7 : Int32) (x8 : Int32) (x9 : Int32) (H : Heap) (locs : List Loc) (ls : Array Slot), va_P G vwCl ((wMd cA qM zM)) H → va_D (adr W9) ((wMd cA qM zM)) → va_S (adr W9) s.heap H locs → lv_has ls 12 [(0, .ref (qM 0)), (1, .int x1), (2, .long x2), (4, .long x4), (6, .int x6), (7, .int x7), (8, .int x8), (9, .int x9)] → f_X7_readTerm_298 zM x1 x2 x4 x6 x7 x8 x9 = some res → W p l e rm_X7_readTerm s m args below meth c H locs 0 0 (MQ below (qWv G W9 ((wMd cA qM res))) args s 0 0 (adr W9)) (F0 m 298 ls []) := by
  obtain ⟨hx, hb, hr, hml, hown, hts, hlocks, hK, hR, hRA⟩ := id C0
  intro zM x1 x2 x4 x6 x7 x8 x9 H locs ls hP hD hS hl hf
  unfold f_X7_readTerm_298 at hf
  refine lv_aload_n hx hb dX7_readTerm_298 rfl (lv_at hl 0 rfl) ?_
  refine va_get (D := G) (ci := 5) (v := .int (gM_fault zM)) (C := RX7) (T := TX7) (N := 13) hx hb hts fin_X7 hown hK.1 hP 0 rfl rfl 10 (by decide) (hts _ wi_681) (fun _ h9 => h9) rfl dX7_readTerm_299 ?_
  refine lv_if_ne (tgt := 320) hx hb dX7_readTerm_302 (by decide) (fun c_1 => ?_) (fun c_1 => ?_)
  · rw [if_pos (c_1)] at hf
    exact b_X7_readTerm_320 qM   C0  zM x1 x2 x4 x6 x7 x8 H locs ls hP hD hS (lv_sub hl [0, 1, 2, 3, 4, 5, 6] rfl) hf
  · rw [if_neg (not_not_intro c_1)] at hf
    refine lv_iload hx hb dX7_readTerm_305 (lv_at hl 7 rfl) ?_
    refine lv_if_ne (tgt := 320) hx hb dX7_readTerm_307 (by decide) (fun c_2 => ?_) (fun c_2 => ?_)
    · rw [if_pos (c_2)] at hf
      exact b_X7_readTerm_320 qM   C0  zM x1 x2 x4 x6 x7 x8 H locs ls hP hD hS (lv_sub hl [0, 1, 2, 3, 4, 5, 6] rfl) hf
    · rw [if_neg (not_not_intro c_2)] at hf
      refine lv_aload_n hx hb dX7_readTerm_310 rfl (lv_at hl 0 rfl) ?_
      refine lv_bipush (v := (-2 : Int32)) hx hb dX7_readTerm_311 (by decide) ?_
      refine lv_aload_n hx hb dX7_readTerm_313 rfl (lv_at hl 0 rfl) ?_
      refine va_get (D := G) (ci := 5) (v := .int (gM_at zM)) (C := RX7) (T := TX7) (N := 13) hx hb hts fin_X7 hown hK.1 hP 0 rfl rfl 9 (by decide) (hts _ wi_680) (fun _ h9 => h9) rfl dX7_readTerm_314 ?_
      obtain ⟨r_3, hr_3, hf⟩ := obd hf
      refine cWvV (As := [.int (-2 : Int32), .int (gM_at zM)]) (rest := []) (W1 := ((wMd cA qM r_3))) ⟨hx, hb, hml, hown, hts⟩ (m_X7_wrong l G cA qM zM (-2 : Int32) (gM_at zM) r_3 hr_3) (cw_X7_wrong hts wi_761 ⟨Nat.le_of_ble_eq_true rfl, Nat.le_of_ble_eq_true rfl⟩) hK hP hD hS [0, 1, 2, 3, 4] [5, 6, 7, 8, 9] rfl rfl rfl (by decide) rfl va_Pnil dj_nil (va_recv hK.1 hP (ci := 5) (q0 := 0) rfl rfl) rfl hl.1 rfl (Nat.le_of_ble_eq_true rfl) dX7_readTerm_317 ⟨Nat.zero_le _, Nat.zero_le _⟩ (fun H locs hP hD hS => ?_)
      exact b_X7_readTerm_320 qM   C0  r_3 x1 x2 x4 x6 x7 x8 H locs ls hP hD hS (lv_sub hl [0, 1, 2, 3, 4, 5, 6] rfl) hf
def f_X7_readTerm_284 (zM : MdS) (x1 : Int32) (x2 : Int64) (x4 : Int64) (x6 : Int32) (x7 : Int32) (x9 : Int32) (v0 : Int32) : Option (MdS) := (f_X7_want zM (120 : Int32)).bind fun r_1 => (f_X7_want r_1 (41 : Int32)).bind fun r_2 => f_X7_readTerm_298  r_2 x1 x2 x4 x6 x7 v0 x9
set_option maxHeartbeats 4000000 in
set_option maxRecDepth 100000 in
theorem b_X7_readTerm_284 {p : Program} {l : Launch} {e : Env} {s : State} {m : MethodId} {args : Array Value} {below : List Frame} {meth : Method} {c : Code} {G : va_G} {cA : Nat → ClassId} {W9 : va_W} (qM : Nat → Nat) (C0 : Amb p s m args meth c cX7_readTerm RX7 12 none G cA (adr W9) []) {res : MdS} : ∀ (zM : MdS) (x1 : Int32) (x2 : Int64) (x4 : Int64) (x6 : Int32) (x7 : Int32) (x9 : Int32) (v0 : Int32) (H : Heap) (locs : List Loc) (ls : Array Slot), va_P G vwCl ((wMd cA qM zM)) H → va_D (adr W9) ((wMd cA qM zM)) → va_S (adr W9) s.heap H locs → lv_has ls 12 [(0, .ref (qM 0)), (1, .int x1), (2, .long x2), (4, .long x4), (6, .int x6), (7, .int x7), (9, .int x9)] → f_X7_readTerm_284 zM x1 x2 x4 x6 x7 x9 v0 = some res → W p l e rm_X7_readTerm s m args below meth c H locs 0 0 (MQ below (qWv G W9 ((wMd cA qM res))) args s 0 0 (adr W9)) (F0 m 284 ls [.int v0]) := by
  obtain ⟨hx, hb, hr, hml, hown, hts, hlocks, hK, hR, hRA⟩ := id C0
  intro zM x1 x2 x4 x6 x7 x9 v0 H locs ls hP hD hS hl hf
  unfold f_X7_readTerm_284 at hf
  refine lv_istore (lv' := [(8, .int v0), (0, .ref (qM 0)), (1, .int x1), (2, .long x2), (4, .long x4), (6, .int x6), (7, .int x7), (9, .int x9)]) hx hb dX7_readTerm_284 hl (by decide) rfl (fun ls hl => ?_)
  refine lv_aload_n hx hb dX7_readTerm_286 rfl (lv_at hl 1 rfl) ?_
  refine lv_bipush (v := (120 : Int32)) hx hb dX7_readTerm_287 (by decide) ?_
  obtain ⟨r_1, hr_1, hf⟩ := obd hf
  refine cWvV (As := [.int (120 : Int32)]) (rest := []) (W1 := ((wMd cA qM r_1))) ⟨hx, hb, hml, hown, hts⟩ (m_X7_want l G cA qM zM (120 : Int32) r_1 hr_1) (cw_X7_want hts wi_765 ⟨Nat.le_of_ble_eq_true rfl, Nat.le_of_ble_eq_true rfl⟩) hK hP hD hS [0, 1, 2, 3, 4] [5, 6, 7, 8, 9] rfl rfl rfl (by decide) rfl va_Pnil dj_nil (va_recv hK.1 hP (ci := 5) (q0 := 0) rfl rfl) rfl hl.1 rfl (Nat.le_of_ble_eq_true rfl) dX7_readTerm_289 ⟨Nat.zero_le _, Nat.zero_le _⟩ (fun H locs hP hD hS => ?_)
  refine lv_aload_n hx hb dX7_readTerm_292 rfl (lv_at hl 1 rfl) ?_
  refine lv_bipush (v := (41 : Int32)) hx hb dX7_readTerm_293 (by decide) ?_
  obtain ⟨r_2, hr_2, hf⟩ := obd hf
  refine cWvV (As := [.int (41 : Int32)]) (rest := []) (W1 := ((wMd cA qM r_2))) ⟨hx, hb, hml, hown, hts⟩ (m_X7_want l G cA qM r_1 (41 : Int32) r_2 hr_2) (cw_X7_want hts wi_765 ⟨Nat.le_of_ble_eq_true rfl, Nat.le_of_ble_eq_true rfl⟩) hK hP hD hS [0, 1, 2, 3, 4] [5, 6, 7, 8, 9] rfl rfl rfl (by decide) rfl va_Pnil dj_nil (va_recv hK.1 hP (ci := 5) (q0 := 0) rfl rfl) rfl hl.1 rfl (Nat.le_of_ble_eq_true rfl) dX7_readTerm_295 ⟨Nat.zero_le _, Nat.zero_le _⟩ (fun H locs hP hD hS => ?_)
  exact b_X7_readTerm_298 qM   C0  r_2 x1 x2 x4 x6 x7 v0 x9 H locs ls hP hD hS (lv_sub hl [1, 2, 3, 4, 5, 6, 0, 7] rfl) hf
def f_X7_readTerm_269 (zM : MdS) (x1 : Int32) (x2 : Int64) (x4 : Int64) (x6 : Int32) (x7 : Int32) (x9 : Int32) (x10 : Int32) (v0 : Int32) : Option (MdS) := if x10 = 0 then f_X7_readTerm_284  zM x1 x2 x4 x6 x7 x9 v0 else f_X7_readTerm_284  zM x1 x2 x4 x6 x7 x9 (-v0)
set_option maxHeartbeats 4000000 in
set_option maxRecDepth 100000 in
theorem b_X7_readTerm_269 {p : Program} {l : Launch} {e : Env} {s : State} {m : MethodId} {args : Array Value} {below : List Frame} {meth : Method} {c : Code} {G : va_G} {cA : Nat → ClassId} {W9 : va_W} (qM : Nat → Nat) (C0 : Amb p s m args meth c cX7_readTerm RX7 12 none G cA (adr W9) []) {res : MdS} : ∀ (zM : MdS) (x1 : Int32) (x2 : Int64) (x4 : Int64) (x6 : Int32) (x7 : Int32) (x9 : Int32) (x10 : Int32) (v0 : Int32) (H : Heap) (locs : List Loc) (ls : Array Slot), va_P G vwCl ((wMd cA qM zM)) H → va_D (adr W9) ((wMd cA qM zM)) → va_S (adr W9) s.heap H locs → lv_has ls 12 [(0, .ref (qM 0)), (1, .int x1), (2, .long x2), (4, .long x4), (6, .int x6), (7, .int x7), (9, .int x9), (10, .int x10)] → f_X7_readTerm_269 zM x1 x2 x4 x6 x7 x9 x10 v0 = some res → W p l e rm_X7_readTerm s m args below meth c H locs 0 0 (MQ below (qWv G W9 ((wMd cA qM res))) args s 0 0 (adr W9)) (F0 m 269 ls [.int v0]) := by
  obtain ⟨hx, hb, hr, hml, hown, hts, hlocks, hK, hR, hRA⟩ := id C0
  intro zM x1 x2 x4 x6 x7 x9 x10 v0 H locs ls hP hD hS hl hf
  unfold f_X7_readTerm_269 at hf
  refine lv_istore (lv' := [(8, .int v0), (0, .ref (qM 0)), (1, .int x1), (2, .long x2), (4, .long x4), (6, .int x6), (7, .int x7), (9, .int x9), (10, .int x10)]) hx hb dX7_readTerm_269 hl (by decide) rfl (fun ls hl => ?_)
  refine lv_iload hx hb dX7_readTerm_271 (lv_at hl 8 rfl) ?_
  refine lv_if_eq (tgt := 282) hx hb dX7_readTerm_273 (by decide) (fun c_1 => ?_) (fun c_1 => ?_)
  · rw [if_pos (c_1)] at hf
    refine lv_iload hx hb dX7_readTerm_282 (lv_at hl 0 rfl) ?_
    exact b_X7_readTerm_284 qM   C0  zM x1 x2 x4 x6 x7 x9 v0 H locs ls hP hD hS (lv_sub hl [1, 2, 3, 4, 5, 6, 7] rfl) hf
  · rw [if_neg (c_1)] at hf
    refine lv_iload hx hb dX7_readTerm_276 (lv_at hl 0 rfl) ?_
    refine lv_ineg hx hb dX7_readTerm_278 ?_
    refine lv_goto (tgt := 284) hx hb dX7_readTerm_279 (by decide) ?_
    exact b_X7_readTerm_284 qM   C0  zM x1 x2 x4 x6 x7 x9 (-v0) H locs ls hP hD hS (lv_sub hl [1, 2, 3, 4, 5, 6, 7] rfl) hf
def f_X7_readTerm_268 (zM : MdS) (x1 : Int32) (x2 : Int64) (x4 : Int64) (x6 : Int32) (x7 : Int32) (x9 : Int32) (x10 : Int32) : Option (MdS) := f_X7_readTerm_269  zM x1 x2 x4 x6 x7 x9 x10 (1 : Int32)
set_option maxHeartbeats 4000000 in
set_option maxRecDepth 100000 in
theorem b_X7_readTerm_268 {p : Program} {l : Launch} {e : Env} {s : State} {m : MethodId} {args : Array Value} {below : List Frame} {meth : Method} {c : Code} {G : va_G} {cA : Nat → ClassId} {W9 : va_W} (qM : Nat → Nat) (C0 : Amb p s m args meth c cX7_readTerm RX7 12 none G cA (adr W9) []) {res : MdS} : ∀ (zM : MdS) (x1 : Int32) (x2 : Int64) (x4 : Int64) (x6 : Int32) (x7 : Int32) (x9 : Int32) (x10 : Int32) (H : Heap) (locs : List Loc) (ls : Array Slot), va_P G vwCl ((wMd cA qM zM)) H → va_D (adr W9) ((wMd cA qM zM)) → va_S (adr W9) s.heap H locs → lv_has ls 12 [(0, .ref (qM 0)), (1, .int x1), (2, .long x2), (4, .long x4), (6, .int x6), (7, .int x7), (9, .int x9), (10, .int x10)] → f_X7_readTerm_268 zM x1 x2 x4 x6 x7 x9 x10 = some res → W p l e rm_X7_readTerm s m args below meth c H locs 0 0 (MQ below (qWv G W9 ((wMd cA qM res))) args s 0 0 (adr W9)) (F0 m 268 ls []) := by
  obtain ⟨hx, hb, hr, hml, hown, hts, hlocks, hK, hR, hRA⟩ := id C0
  intro zM x1 x2 x4 x6 x7 x9 x10 H locs ls hP hD hS hl hf
  unfold f_X7_readTerm_268 at hf
  refine lv_iconst (v := 1) hx hb dX7_readTerm_268 (by decide) ?_
  exact b_X7_readTerm_269 qM   C0  zM x1 x2 x4 x6 x7 x9 x10 (1 : Int32) H locs ls hP hD hS (lv_sub hl [0, 1, 2, 3, 4, 5, 6, 7] rfl) hf
def f_X7_readTerm_215 (zM : MdS) (x1 : Int32) (x2 : Int64) (x4 : Int64) (x6 : Int32) (x9 : Int32) (v0 : Int32) : Option (MdS) := (f_X7_want (uM_at zM ((gM_at zM) + (1 : Int32))) (40 : Int32)).bind fun r_1 => (f_X7_takes r_1 (45 : Int32)).bind fun r_2 => if ¬ (gM_fault r_2.2) = 0 then f_X7_readTerm_268  r_2.2 x1 x2 x4 x6 v0 x9 r_2.1 else (f_X7_next r_2.2).bind fun r_4 => (f_X7_isDigit r_4.1).bind fun r_5 => if r_5 = 0 then f_X7_readTerm_268  r_4.2 x1 x2 x4 x6 v0 x9 r_2.1 else (f_X7_readNumber r_4.2 (0 : Int32) (9 : Int32)).bind fun r_7 => f_X7_readTerm_269  r_7.2 x1 x2 x4 x6 v0 x9 r_2.1 r_7.1
set_option maxHeartbeats 4000000 in
set_option maxRecDepth 100000 in
theorem b_X7_readTerm_215 {p : Program} {l : Launch} {e : Env} {s : State} {m : MethodId} {args : Array Value} {below : List Frame} {meth : Method} {c : Code} {G : va_G} {cA : Nat → ClassId} {W9 : va_W} (qM : Nat → Nat) (C0 : Amb p s m args meth c cX7_readTerm RX7 12 none G cA (adr W9) []) {res : MdS} : ∀ (zM : MdS) (x1 : Int32) (x2 : Int64) (x4 : Int64) (x6 : Int32) (x9 : Int32) (v0 : Int32) (H : Heap) (locs : List Loc) (ls : Array Slot), va_P G vwCl ((wMd cA qM zM)) H → va_D (adr W9) ((wMd cA qM zM)) → va_S (adr W9) s.heap H locs → lv_has ls 12 [(0, .ref (qM 0)), (1, .int x1), (2, .long x2), (4, .long x4), (6, .int x6), (9, .int x9)] → f_X7_readTerm_215 zM x1 x2 x4 x6 x9 v0 = some res → W p l e rm_X7_readTerm s m args below meth c H locs 0 0 (MQ below (qWv G W9 ((wMd cA qM res))) args s 0 0 (adr W9)) (F0 m 215 ls [.int v0]) := by
  obtain ⟨hx, hb, hr, hml, hown, hts, hlocks, hK, hR, hRA⟩ := id C0
  intro zM x1 x2 x4 x6 x9 v0 H locs ls hP hD hS hl hf
  unfold f_X7_readTerm_215 at hf
  refine lv_istore (lv' := [(7, .int v0), (0, .ref (qM 0)), (1, .int x1), (2, .long x2), (4, .long x4), (6, .int x6), (9, .int x9)]) hx hb dX7_readTerm_215 hl (by decide) rfl (fun ls hl => ?_)
  refine lv_aload_n hx hb dX7_readTerm_217 rfl (lv_at hl 1 rfl) ?_
  refine lv_dup hx hb dX7_readTerm_218 rfl ?_
  refine va_get (D := G) (ci := 5) (v := .int (gM_at zM)) (C := RX7) (T := TX7) (N := 13) hx hb hts fin_X7 hown hK.1 hP 0 rfl rfl 9 (by decide) (hts _ wi_680) (fun _ h9 => h9) rfl dX7_readTerm_219 ?_
  refine lv_iconst (v := 1) hx hb dX7_readTerm_222 (by decide) ?_
  refine lv_iadd hx hb dX7_readTerm_223 ?_
  refine va_put (D := G) (ci := 5) (v := .int ((gM_at zM) + (1 : Int32))) (ty := .int) (C := RX7) (T := TX7) (N := 13) hx hb hts fin_X7 tyX7 tyX7_ok nmX7 hown hK.1 hP hD hS 0 rfl rfl 9 (by decide) (hts _ wi_680) (fun _ h9 => h9) rfl (by decide +kernel) rfl rfl (Nat.le_of_ble_eq_true rfl) dX7_readTerm_224 (fun H locs hP hD hS => ?_)
  have hP : va_P G vwCl ((wMd cA qM (uM_at zM ((gM_at zM) + (1 : Int32))))) H := hP
  have hD : va_D (adr W9) ((wMd cA qM (uM_at zM ((gM_at zM) + (1 : Int32))))) := hD
  refine lv_aload_n hx hb dX7_readTerm_227 rfl (lv_at hl 1 rfl) ?_
  refine lv_bipush (v := (40 : Int32)) hx hb dX7_readTerm_228 (by decide) ?_
  obtain ⟨r_1, hr_1, hf⟩ := obd hf
  refine cWvV (As := [.int (40 : Int32)]) (rest := []) (W1 := ((wMd cA qM r_1))) ⟨hx, hb, hml, hown, hts⟩ (m_X7_want l G cA qM (uM_at zM ((gM_at zM) + (1 : Int32))) (40 : Int32) r_1 hr_1) (cw_X7_want hts wi_765 ⟨Nat.le_of_ble_eq_true rfl, Nat.le_of_ble_eq_true rfl⟩) hK hP hD hS [0, 1, 2, 3, 4] [5, 6, 7, 8, 9] rfl rfl rfl (by decide) rfl va_Pnil dj_nil (va_recv hK.1 hP (ci := 5) (q0 := 0) rfl rfl) rfl hl.1 rfl (Nat.le_of_ble_eq_true rfl) dX7_readTerm_230 ⟨Nat.zero_le _, Nat.zero_le _⟩ (fun H locs hP hD hS => ?_)
  refine lv_aload_n hx hb dX7_readTerm_233 rfl (lv_at hl 1 rfl) ?_
  refine lv_bipush (v := (45 : Int32)) hx hb dX7_readTerm_234 (by decide) ?_
  obtain ⟨r_2, hr_2, hf⟩ := obd hf
  refine cWiV (As := [.int (45 : Int32)]) (rest := []) (W1 := ((wMd cA qM r_2.2))) ⟨hx, hb, hml, hown, hts⟩ (m_X7_takes l G cA qM r_1 (45 : Int32) r_2 hr_2) (cw_X7_takes hts wi_742 ⟨Nat.le_of_ble_eq_true rfl, Nat.le_of_ble_eq_true rfl⟩) hK hP hD hS [0, 1, 2, 3, 4] [5, 6, 7, 8, 9] rfl rfl rfl (by decide) rfl va_Pnil dj_nil (va_recv hK.1 hP (ci := 5) (q0 := 0) rfl rfl) rfl hl.1 rfl (Nat.le_of_ble_eq_true rfl) dX7_readTerm_236 ⟨Nat.zero_le _, Nat.zero_le _⟩ (fun H locs hP hD hS => ?_)
  refine lv_istore (lv' := [(10, .int r_2.1), (7, .int v0), (0, .ref (qM 0)), (1, .int x1), (2, .long x2), (4, .long x4), (6, .int x6), (9, .int x9)]) hx hb dX7_readTerm_239 hl (by decide) rfl (fun ls hl => ?_)
  refine lv_aload_n hx hb dX7_readTerm_241 rfl (lv_at hl 2 rfl) ?_
  refine va_get (D := G) (ci := 5) (v := .int (gM_fault r_2.2)) (C := RX7) (T := TX7) (N := 13) hx hb hts fin_X7 hown hK.1 hP 0 rfl rfl 10 (by decide) (hts _ wi_681) (fun _ h9 => h9) rfl dX7_readTerm_242 ?_
  refine lv_if_ne (tgt := 268) hx hb dX7_readTerm_245 (by decide) (fun c_3 => ?_) (fun c_3 => ?_)
  · rw [if_pos (c_3)] at hf
    exact b_X7_readTerm_268 qM   C0  r_2.2 x1 x2 x4 x6 v0 x9 r_2.1 H locs ls hP hD hS (lv_sub hl [2, 3, 4, 5, 6, 1, 7, 0] rfl) hf
  · rw [if_neg (not_not_intro c_3)] at hf
    refine lv_aload_n hx hb dX7_readTerm_248 rfl (lv_at hl 2 rfl) ?_
    obtain ⟨r_4, hr_4, hf⟩ := obd hf
    refine cWiV (As := []) (rest := []) (W1 := ((wMd cA qM r_4.2))) ⟨hx, hb, hml, hown, hts⟩ (m_X7_next l G cA qM r_2.2 r_4 hr_4) (cw_X7_next hts wi_746 ⟨Nat.le_of_ble_eq_true rfl, Nat.le_of_ble_eq_true rfl⟩) hK hP hD hS [0, 1, 2, 3, 4] [5, 6, 7, 8, 9] rfl rfl rfl (by decide) rfl va_Pnil dj_nil (va_recv hK.1 hP (ci := 5) (q0 := 0) rfl rfl) rfl hl.1 rfl (Nat.le_of_ble_eq_true rfl) dX7_readTerm_249 ⟨Nat.zero_le _, Nat.zero_le _⟩ (fun H locs hP hD hS => ?_)
    obtain ⟨r_5, hr_5, hf⟩ := obd hf
    refine cRiS (As := [.int r_4.1]) (rest := []) ⟨hx, hb, hml, hown, hts⟩ (m_X7_isDigit l G cA r_4.1 r_5 hr_5) (cw_X7_isDigit hts wi_754 ⟨Nat.le_of_ble_eq_true rfl, Nat.le_of_ble_eq_true rfl⟩) hK va_Pnil rfl hl.1 rfl (Nat.le_of_ble_eq_true rfl) dX7_readTerm_252 ⟨Nat.zero_le _, Nat.zero_le _⟩ ?_
    refine lv_if_eq (tgt := 268) hx hb dX7_readTerm_255 (by decide) (fun c_6 => ?_) (fun c_6 => ?_)
    · rw [if_pos (c_6)] at hf
      exact b_X7_readTerm_268 qM   C0  r_4.2 x1 x2 x4 x6 v0 x9 r_2.1 H locs ls hP hD hS (lv_sub hl [2, 3, 4, 5, 6, 1, 7, 0] rfl) hf
    · rw [if_neg (c_6)] at hf
      refine lv_aload_n hx hb dX7_readTerm_258 rfl (lv_at hl 2 rfl) ?_
      refine lv_iconst (v := 0) hx hb dX7_readTerm_259 (by decide) ?_
      refine lv_bipush (v := (9 : Int32)) hx hb dX7_readTerm_260 (by decide) ?_
      obtain ⟨r_7, hr_7, hf⟩ := obd hf
      refine cWiV (As := [.int (0 : Int32), .int (9 : Int32)]) (rest := []) (W1 := ((wMd cA qM r_7.2))) ⟨hx, hb, hml, hown, hts⟩ (m_X7_readNumber l G cA qM r_4.2 (0 : Int32) (9 : Int32) r_7 hr_7) (cw_X7_readNumber hts wi_757 ⟨Nat.le_of_ble_eq_true rfl, Nat.le_of_ble_eq_true rfl⟩) hK hP hD hS [0, 1, 2, 3, 4] [5, 6, 7, 8, 9] rfl rfl rfl (by decide) rfl va_Pnil dj_nil (va_recv hK.1 hP (ci := 5) (q0 := 0) rfl rfl) rfl hl.1 rfl (Nat.le_of_ble_eq_true rfl) dX7_readTerm_262 ⟨Nat.zero_le _, Nat.zero_le _⟩ (fun H locs hP hD hS => ?_)
      refine lv_goto (tgt := 269) hx hb dX7_readTerm_265 (by decide) ?_
      exact b_X7_readTerm_269 qM   C0  r_7.2 x1 x2 x4 x6 v0 x9 r_2.1 r_7.1 H locs ls hP hD hS (lv_sub hl [2, 3, 4, 5, 6, 1, 7, 0] rfl) hf
def f_X7_readTerm_185 (zM : MdS) (x1 : Int32) (x2 : Int64) (x4 : Int64) (x6 : Int32) : Option (MdS) := (f_X7_next zM).bind fun r_1 => if ¬ r_1.1 = (101 : Int32) then (f_X7_next r_1.2).bind fun r_3 => if ¬ r_3.1 = (115 : Int32) then f_X7_readTerm_215  r_3.2 x1 x2 x4 x6 (1 : Int32) (4 : Int32) else f_X7_readTerm_215  r_3.2 x1 x2 x4 x6 (1 : Int32) (3 : Int32) else f_X7_readTerm_215  r_1.2 x1 x2 x4 x6 (1 : Int32) (2 : Int32)
set_option maxHeartbeats 4000000 in
set_option maxRecDepth 100000 in
theorem b_X7_readTerm_185 {p : Program} {l : Launch} {e : Env} {s : State} {m : MethodId} {args : Array Value} {below : List Frame} {meth : Method} {c : Code} {G : va_G} {cA : Nat → ClassId} {W9 : va_W} (qM : Nat → Nat) (C0 : Amb p s m args meth c cX7_readTerm RX7 12 none G cA (adr W9) []) {res : MdS} : ∀ (zM : MdS) (x1 : Int32) (x2 : Int64) (x4 : Int64) (x6 : Int32) (H : Heap) (locs : List Loc) (ls : Array Slot), va_P G vwCl ((wMd cA qM zM)) H → va_D (adr W9) ((wMd cA qM zM)) → va_S (adr W9) s.heap H locs → lv_has ls 12 [(0, .ref (qM 0)), (1, .int x1), (2, .long x2), (4, .long x4), (6, .int x6)] → f_X7_readTerm_185 zM x1 x2 x4 x6 = some res → W p l e rm_X7_readTerm s m args below meth c H locs 0 0 (MQ below (qWv G W9 ((wMd cA qM res))) args s 0 0 (adr W9)) (F0 m 185 ls []) := by
  obtain ⟨hx, hb, hr, hml, hown, hts, hlocks, hK, hR, hRA⟩ := id C0
  intro zM x1 x2 x4 x6 H locs ls hP hD hS hl hf
  unfold f_X7_readTerm_185 at hf
  refine lv_iconst (v := 1) hx hb dX7_readTerm_185 (by decide) ?_
  refine lv_istore (lv' := [(9, .int (1 : Int32)), (0, .ref (qM 0)), (1, .int x1), (2, .long x2), (4, .long x4), (6, .int x6)]) hx hb dX7_readTerm_186 hl (by decide) rfl (fun ls hl => ?_)
  refine lv_aload_n hx hb dX7_readTerm_188 rfl (lv_at hl 1 rfl) ?_
  obtain ⟨r_1, hr_1, hf⟩ := obd hf
  refine cWiV (As := []) (rest := []) (W1 := ((wMd cA qM r_1.2))) ⟨hx, hb, hml, hown, hts⟩ (m_X7_next l G cA qM zM r_1 hr_1) (cw_X7_next hts wi_746 ⟨Nat.le_of_ble_eq_true rfl, Nat.le_of_ble_eq_true rfl⟩) hK hP hD hS [0, 1, 2, 3, 4] [5, 6, 7, 8, 9] rfl rfl rfl (by decide) rfl va_Pnil dj_nil (va_recv hK.1 hP (ci := 5) (q0 := 0) rfl rfl) rfl hl.1 rfl (Nat.le_of_ble_eq_true rfl) dX7_readTerm_189 ⟨Nat.zero_le _, Nat.zero_le _⟩ (fun H locs hP hD hS => ?_)
  refine lv_bipush (v := (101 : Int32)) hx hb dX7_readTerm_192 (by decide) ?_
  refine lv_icmp_ne (tgt := 201) hx hb dX7_readTerm_194 (by decide) (fun c_2 => ?_) (fun c_2 => ?_)
  · rw [if_pos (c_2)] at hf
    refine lv_aload_n hx hb dX7_readTerm_201 rfl (lv_at hl 1 rfl) ?_
    obtain ⟨r_3, hr_3, hf⟩ := obd hf
    refine cWiV (As := []) (rest := []) (W1 := ((wMd cA qM r_3.2))) ⟨hx, hb, hml, hown, hts⟩ (m_X7_next l G cA qM r_1.2 r_3 hr_3) (cw_X7_next hts wi_746 ⟨Nat.le_of_ble_eq_true rfl, Nat.le_of_ble_eq_true rfl⟩) hK hP hD hS [0, 1, 2, 3, 4] [5, 6, 7, 8, 9] rfl rfl rfl (by decide) rfl va_Pnil dj_nil (va_recv hK.1 hP (ci := 5) (q0 := 0) rfl rfl) rfl hl.1 rfl (Nat.le_of_ble_eq_true rfl) dX7_readTerm_202 ⟨Nat.zero_le _, Nat.zero_le _⟩ (fun H locs hP hD hS => ?_)
    refine lv_bipush (v := (115 : Int32)) hx hb dX7_readTerm_205 (by decide) ?_
    refine lv_icmp_ne (tgt := 214) hx hb dX7_readTerm_207 (by decide) (fun c_4 => ?_) (fun c_4 => ?_)
    · rw [if_pos (c_4)] at hf
      refine lv_iconst (v := 4) hx hb dX7_readTerm_214 (by decide) ?_
      exact b_X7_readTerm_215 qM   C0  r_3.2 x1 x2 x4 x6 (1 : Int32) (4 : Int32) H locs ls hP hD hS (lv_sub hl [1, 2, 3, 4, 5, 0] rfl) hf
    · rw [if_neg (not_not_intro c_4)] at hf
      refine lv_iconst (v := 3) hx hb dX7_readTerm_210 (by decide) ?_
      refine lv_goto (tgt := 215) hx hb dX7_readTerm_211 (by decide) ?_
      exact b_X7_readTerm_215 qM   C0  r_3.2 x1 x2 x4 x6 (1 : Int32) (3 : Int32) H locs ls hP hD hS (lv_sub hl [1, 2, 3, 4, 5, 0] rfl) hf
  · rw [if_neg (not_not_intro c_2)] at hf
    refine lv_iconst (v := 2) hx hb dX7_readTerm_197 (by decide) ?_
    refine lv_goto (tgt := 215) hx hb dX7_readTerm_198 (by decide) ?_
    exact b_X7_readTerm_215 qM   C0  r_1.2 x1 x2 x4 x6 (1 : Int32) (2 : Int32) H locs ls hP hD hS (lv_sub hl [1, 2, 3, 4, 5, 0] rfl) hf
def f_X7_readTerm_112 (zM : MdS) (x1 : Int32) (x2 : Int64) (x4 : Int64) (x6 : Int32) (x7 : Int32) (x8 : Int32) (x9 : Int32) : Option (MdS) := (f_X7_takes zM (108 : Int32)).bind fun r_1 => if r_1.1 = 0 then if ¬ (gM_fault r_1.2) = 0 then f_X7_readTerm_298  r_1.2 x1 x2 x4 x6 x7 x8 x9 else (f_X7_next r_1.2).bind fun r_4 => if r_4.1 = (101 : Int32) then f_X7_readTerm_185  r_4.2 x1 x2 x4 x6 else (f_X7_next r_4.2).bind fun r_6 => if r_6.1 = (115 : Int32) then f_X7_readTerm_185  r_6.2 x1 x2 x4 x6 else (f_X7_next r_6.2).bind fun r_8 => if ¬ r_8.1 = (99 : Int32) then f_X7_readTerm_298  r_8.2 x1 x2 x4 x6 x7 x8 x9 else f_X7_readTerm_185  r_8.2 x1 x2 x4 x6 else (f_X7_takes r_1.2 (94 : Int32)).bind fun r_10 => if r_10.1 = 0 then f_X7_readTerm_298  r_10.2 x1 x2 x4 x6 (1 : Int32) (1 : Int32) (1 : Int32) else (f_X7_readNumber r_10.2 (0 : Int32) (9 : Int32)).bind fun r_12 => f_X7_readTerm_298  r_12.2 x1 x2 x4 x6 (1 : Int32) r_12.1 (1 : Int32)
set_option maxHeartbeats 4000000 in
set_option maxRecDepth 100000 in
theorem b_X7_readTerm_112 {p : Program} {l : Launch} {e : Env} {s : State} {m : MethodId} {args : Array Value} {below : List Frame} {meth : Method} {c : Code} {G : va_G} {cA : Nat → ClassId} {W9 : va_W} (qM : Nat → Nat) (C0 : Amb p s m args meth c cX7_readTerm RX7 12 none G cA (adr W9) []) {res : MdS} : ∀ (zM : MdS) (x1 : Int32) (x2 : Int64) (x4 : Int64) (x6 : Int32) (x7 : Int32) (x8 : Int32) (x9 : Int32) (H : Heap) (locs : List Loc) (ls : Array Slot), va_P G vwCl ((wMd cA qM zM)) H → va_D (adr W9) ((wMd cA qM zM)) → va_S (adr W9) s.heap H locs → lv_has ls 12 [(0, .ref (qM 0)), (1, .int x1), (2, .long x2), (4, .long x4), (6, .int x6), (7, .int x7), (8, .int x8), (9, .int x9)] → f_X7_readTerm_112 zM x1 x2 x4 x6 x7 x8 x9 = some res → W p l e rm_X7_readTerm s m args below meth c H locs 0 0 (MQ below (qWv G W9 ((wMd cA qM res))) args s 0 0 (adr W9)) (F0 m 112 ls []) := by
  obtain ⟨hx, hb, hr, hml, hown, hts, hlocks, hK, hR, hRA⟩ := id C0
  intro zM x1 x2 x4 x6 x7 x8 x9 H locs ls hP hD hS hl hf
  unfold f_X7_readTerm_112 at hf
  refine lv_aload_n hx hb dX7_readTerm_112 rfl (lv_at hl 0 rfl) ?_
  refine lv_bipush (v := (108 : Int32)) hx hb dX7_readTerm_113 (by decide) ?_
  obtain ⟨r_1, hr_1, hf⟩ := obd hf
  refine cWiV (As := [.int (108 : Int32)]) (rest := []) (W1 := ((wMd cA qM r_1.2))) ⟨hx, hb, hml, hown, hts⟩ (m_X7_takes l G cA qM zM (108 : Int32) r_1 hr_1) (cw_X7_takes hts wi_742 ⟨Nat.le_of_ble_eq_true rfl, Nat.le_of_ble_eq_true rfl⟩) hK hP hD hS [0, 1, 2, 3, 4] [5, 6, 7, 8, 9] rfl rfl rfl (by decide) rfl va_Pnil dj_nil (va_recv hK.1 hP (ci := 5) (q0 := 0) rfl rfl) rfl hl.1 rfl (Nat.le_of_ble_eq_true rfl) dX7_readTerm_115 ⟨Nat.zero_le _, Nat.zero_le _⟩ (fun H locs hP hD hS => ?_)
  refine lv_if_eq (tgt := 151) hx hb dX7_readTerm_118 (by decide) (fun c_2 => ?_) (fun c_2 => ?_)
  · rw [if_pos (c_2)] at hf
    refine lv_aload_n hx hb dX7_readTerm_151 rfl (lv_at hl 0 rfl) ?_
    refine va_get (D := G) (ci := 5) (v := .int (gM_fault r_1.2)) (C := RX7) (T := TX7) (N := 13) hx hb hts fin_X7 hown hK.1 hP 0 rfl rfl 10 (by decide) (hts _ wi_681) (fun _ h9 => h9) rfl dX7_readTerm_152 ?_
    refine lv_if_ne (tgt := 298) hx hb dX7_readTerm_155 (by decide) (fun c_3 => ?_) (fun c_3 => ?_)
    · rw [if_pos (c_3)] at hf
      exact b_X7_readTerm_298 qM   C0  r_1.2 x1 x2 x4 x6 x7 x8 x9 H locs ls hP hD hS (lv_sub hl [0, 1, 2, 3, 4, 5, 6, 7] rfl) hf
    · rw [if_neg (not_not_intro c_3)] at hf
      refine lv_aload_n hx hb dX7_readTerm_158 rfl (lv_at hl 0 rfl) ?_
      obtain ⟨r_4, hr_4, hf⟩ := obd hf
      refine cWiV (As := []) (rest := []) (W1 := ((wMd cA qM r_4.2))) ⟨hx, hb, hml, hown, hts⟩ (m_X7_next l G cA qM r_1.2 r_4 hr_4) (cw_X7_next hts wi_746 ⟨Nat.le_of_ble_eq_true rfl, Nat.le_of_ble_eq_true rfl⟩) hK hP hD hS [0, 1, 2, 3, 4] [5, 6, 7, 8, 9] rfl rfl rfl (by decide) rfl va_Pnil dj_nil (va_recv hK.1 hP (ci := 5) (q0 := 0) rfl rfl) rfl hl.1 rfl (Nat.le_of_ble_eq_true rfl) dX7_readTerm_159 ⟨Nat.zero_le _, Nat.zero_le _⟩ (fun H locs hP hD hS => ?_)
      refine lv_bipush (v := (101 : Int32)) hx hb dX7_readTerm_162 (by decide) ?_
      refine lv_icmp_eq (tgt := 185) hx hb dX7_readTerm_164 (by decide) (fun c_5 => ?_) (fun c_5 => ?_)
      · rw [if_pos (c_5)] at hf
        exact b_X7_readTerm_185 qM   C0  r_4.2 x1 x2 x4 x6 H locs ls hP hD hS (lv_sub hl [0, 1, 2, 3, 4] rfl) hf
      · rw [if_neg (c_5)] at hf
        refine lv_aload_n hx hb dX7_readTerm_167 rfl (lv_at hl 0 rfl) ?_
        obtain ⟨r_6, hr_6, hf⟩ := obd hf
        refine cWiV (As := []) (rest := []) (W1 := ((wMd cA qM r_6.2))) ⟨hx, hb, hml, hown, hts⟩ (m_X7_next l G cA qM r_4.2 r_6 hr_6) (cw_X7_next hts wi_746 ⟨Nat.le_of_ble_eq_true rfl, Nat.le_of_ble_eq_true rfl⟩) hK hP hD hS [0, 1, 2, 3, 4] [5, 6, 7, 8, 9] rfl rfl rfl (by decide) rfl va_Pnil dj_nil (va_recv hK.1 hP (ci := 5) (q0 := 0) rfl rfl) rfl hl.1 rfl (Nat.le_of_ble_eq_true rfl) dX7_readTerm_168 ⟨Nat.zero_le _, Nat.zero_le _⟩ (fun H locs hP hD hS => ?_)
        refine lv_bipush (v := (115 : Int32)) hx hb dX7_readTerm_171 (by decide) ?_
        refine lv_icmp_eq (tgt := 185) hx hb dX7_readTerm_173 (by decide) (fun c_7 => ?_) (fun c_7 => ?_)
        · rw [if_pos (c_7)] at hf
          exact b_X7_readTerm_185 qM   C0  r_6.2 x1 x2 x4 x6 H locs ls hP hD hS (lv_sub hl [0, 1, 2, 3, 4] rfl) hf
        · rw [if_neg (c_7)] at hf
          refine lv_aload_n hx hb dX7_readTerm_176 rfl (lv_at hl 0 rfl) ?_
          obtain ⟨r_8, hr_8, hf⟩ := obd hf
          refine cWiV (As := []) (rest := []) (W1 := ((wMd cA qM r_8.2))) ⟨hx, hb, hml, hown, hts⟩ (m_X7_next l G cA qM r_6.2 r_8 hr_8) (cw_X7_next hts wi_746 ⟨Nat.le_of_ble_eq_true rfl, Nat.le_of_ble_eq_true rfl⟩) hK hP hD hS [0, 1, 2, 3, 4] [5, 6, 7, 8, 9] rfl rfl rfl (by decide) rfl va_Pnil dj_nil (va_recv hK.1 hP (ci := 5) (q0 := 0) rfl rfl) rfl hl.1 rfl (Nat.le_of_ble_eq_true rfl) dX7_readTerm_177 ⟨Nat.zero_le _, Nat.zero_le _⟩ (fun H locs hP hD hS => ?_)
          refine lv_bipush (v := (99 : Int32)) hx hb dX7_readTerm_180 (by decide) ?_
          refine lv_icmp_ne (tgt := 298) hx hb dX7_readTerm_182 (by decide) (fun c_9 => ?_) (fun c_9 => ?_)
          · rw [if_pos (c_9)] at hf
            exact b_X7_readTerm_298 qM   C0  r_8.2 x1 x2 x4 x6 x7 x8 x9 H locs ls hP hD hS (lv_sub hl [0, 1, 2, 3, 4, 5, 6, 7] rfl) hf
          · rw [if_neg (not_not_intro c_9)] at hf
            exact b_X7_readTerm_185 qM   C0  r_8.2 x1 x2 x4 x6 H locs ls hP hD hS (lv_sub hl [0, 1, 2, 3, 4] rfl) hf
  · rw [if_neg (c_2)] at hf
    refine lv_iconst (v := 1) hx hb dX7_readTerm_121 (by decide) ?_
    refine lv_istore (lv' := [(9, .int (1 : Int32)), (0, .ref (qM 0)), (1, .int x1), (2, .long x2), (4, .long x4), (6, .int x6), (7, .int x7), (8, .int x8)]) hx hb dX7_readTerm_122 hl (by decide) rfl (fun ls hl => ?_)
    refine lv_iconst (v := 1) hx hb dX7_readTerm_124 (by decide) ?_
    refine lv_istore (lv' := [(7, .int (1 : Int32)), (9, .int (1 : Int32)), (0, .ref (qM 0)), (1, .int x1), (2, .long x2), (4, .long x4), (6, .int x6), (8, .int x8)]) hx hb dX7_readTerm_125 hl (by decide) rfl (fun ls hl => ?_)
    refine lv_iconst (v := 1) hx hb dX7_readTerm_127 (by decide) ?_
    refine lv_istore (lv' := [(8, .int (1 : Int32)), (7, .int (1 : Int32)), (9, .int (1 : Int32)), (0, .ref (qM 0)), (1, .int x1), (2, .long x2), (4, .long x4), (6, .int x6)]) hx hb dX7_readTerm_128 hl (by decide) rfl (fun ls hl => ?_)
    refine lv_aload_n hx hb dX7_readTerm_130 rfl (lv_at hl 3 rfl) ?_
    refine lv_bipush (v := (94 : Int32)) hx hb dX7_readTerm_131 (by decide) ?_
    obtain ⟨r_10, hr_10, hf⟩ := obd hf
    refine cWiV (As := [.int (94 : Int32)]) (rest := []) (W1 := ((wMd cA qM r_10.2))) ⟨hx, hb, hml, hown, hts⟩ (m_X7_takes l G cA qM r_1.2 (94 : Int32) r_10 hr_10) (cw_X7_takes hts wi_742 ⟨Nat.le_of_ble_eq_true rfl, Nat.le_of_ble_eq_true rfl⟩) hK hP hD hS [0, 1, 2, 3, 4] [5, 6, 7, 8, 9] rfl rfl rfl (by decide) rfl va_Pnil dj_nil (va_recv hK.1 hP (ci := 5) (q0 := 0) rfl rfl) rfl hl.1 rfl (Nat.le_of_ble_eq_true rfl) dX7_readTerm_133 ⟨Nat.zero_le _, Nat.zero_le _⟩ (fun H locs hP hD hS => ?_)
    refine lv_if_eq (tgt := 298) hx hb dX7_readTerm_136 (by decide) (fun c_11 => ?_) (fun c_11 => ?_)
    · rw [if_pos (c_11)] at hf
      exact b_X7_readTerm_298 qM   C0  r_10.2 x1 x2 x4 x6 (1 : Int32) (1 : Int32) (1 : Int32) H locs ls hP hD hS (lv_sub hl [3, 4, 5, 6, 7, 1, 0, 2] rfl) hf
    · rw [if_neg (c_11)] at hf
      refine lv_aload_n hx hb dX7_readTerm_139 rfl (lv_at hl 3 rfl) ?_
      refine lv_iconst (v := 0) hx hb dX7_readTerm_140 (by decide) ?_
      refine lv_bipush (v := (9 : Int32)) hx hb dX7_readTerm_141 (by decide) ?_
      obtain ⟨r_12, hr_12, hf⟩ := obd hf
      refine cWiV (As := [.int (0 : Int32), .int (9 : Int32)]) (rest := []) (W1 := ((wMd cA qM r_12.2))) ⟨hx, hb, hml, hown, hts⟩ (m_X7_readNumber l G cA qM r_10.2 (0 : Int32) (9 : Int32) r_12 hr_12) (cw_X7_readNumber hts wi_757 ⟨Nat.le_of_ble_eq_true rfl, Nat.le_of_ble_eq_true rfl⟩) hK hP hD hS [0, 1, 2, 3, 4] [5, 6, 7, 8, 9] rfl rfl rfl (by decide) rfl va_Pnil dj_nil (va_recv hK.1 hP (ci := 5) (q0 := 0) rfl rfl) rfl hl.1 rfl (Nat.le_of_ble_eq_true rfl) dX7_readTerm_143 ⟨Nat.zero_le _, Nat.zero_le _⟩ (fun H locs hP hD hS => ?_)
      refine lv_istore (lv' := [(8, .int r_12.1), (7, .int (1 : Int32)), (9, .int (1 : Int32)), (0, .ref (qM 0)), (1, .int x1), (2, .long x2), (4, .long x4), (6, .int x6)]) hx hb dX7_readTerm_146 hl (by decide) rfl (fun ls hl => ?_)
      refine lv_goto (tgt := 298) hx hb dX7_readTerm_148 (by decide) ?_
      exact b_X7_readTerm_298 qM   C0  r_12.2 x1 x2 x4 x6 (1 : Int32) r_12.1 (1 : Int32) H locs ls hP hD hS (lv_sub hl [3, 4, 5, 6, 7, 1, 0, 2] rfl) hf
def f_X7_readTerm_110 (zM : MdS) (x1 : Int32) (x2 : Int64) (x4 : Int64) (x7 : Int32) (x8 : Int32) (x9 : Int32) (v0 : Int32) : Option (MdS) := f_X7_readTerm_112  zM x1 x2 x4 v0 x7 x8 x9
set_option maxHeartbeats 4000000 in
set_option maxRecDepth 100000 in
theorem b_X7_readTerm_110 {p : Program} {l : Launch} {e : Env} {s : State} {m : MethodId} {args : Array Value} {below : List Frame} {meth : Method} {c : Code} {G : va_G} {cA : Nat → ClassId} {W9 : va_W} (qM : Nat → Nat) (C0 : Amb p s m args meth c cX7_readTerm RX7 12 none G cA (adr W9) []) {res : MdS} : ∀ (zM : MdS) (x1 : Int32) (x2 : Int64) (x4 : Int64) (x7 : Int32) (x8 : Int32) (x9 : Int32) (v0 : Int32) (H : Heap) (locs : List Loc) (ls : Array Slot), va_P G vwCl ((wMd cA qM zM)) H → va_D (adr W9) ((wMd cA qM zM)) → va_S (adr W9) s.heap H locs → lv_has ls 12 [(0, .ref (qM 0)), (1, .int x1), (2, .long x2), (4, .long x4), (7, .int x7), (8, .int x8), (9, .int x9)] → f_X7_readTerm_110 zM x1 x2 x4 x7 x8 x9 v0 = some res → W p l e rm_X7_readTerm s m args below meth c H locs 0 0 (MQ below (qWv G W9 ((wMd cA qM res))) args s 0 0 (adr W9)) (F0 m 110 ls [.int v0]) := by
  obtain ⟨hx, hb, hr, hml, hown, hts, hlocks, hK, hR, hRA⟩ := id C0
  intro zM x1 x2 x4 x7 x8 x9 v0 H locs ls hP hD hS hl hf
  unfold f_X7_readTerm_110 at hf
  refine lv_istore (lv' := [(6, .int v0), (0, .ref (qM 0)), (1, .int x1), (2, .long x2), (4, .long x4), (7, .int x7), (8, .int x8), (9, .int x9)]) hx hb dX7_readTerm_110 hl (by decide) rfl (fun ls hl => ?_)
  exact b_X7_readTerm_112 qM   C0  zM x1 x2 x4 v0 x7 x8 x9 H locs ls hP hD hS (lv_sub hl [1, 2, 3, 4, 0, 5, 6, 7] rfl) hf
def f_X7_readTerm_56 (zM : MdS) (x1 : Int32) (x2 : Int64) (x4 : Int64) (x6 : Int32) (x7 : Int32) (x8 : Int32) (x9 : Int32) : Option (MdS) := (f_X7_takes zM (120 : Int32)).bind fun r_1 => if r_1.1 = 0 then f_X7_readTerm_112  r_1.2 x1 x2 x4 x6 x7 x8 x9 else (f_X7_takes r_1.2 (94 : Int32)).bind fun r_3 => if r_3.1 = 0 then f_X7_readTerm_112  r_3.2 x1 x2 x4 (1 : Int32) x7 x8 (1 : Int32) else (f_X7_takes r_3.2 (45 : Int32)).bind fun r_5 => (f_X7_readNumber r_5.2 (0 : Int32) (12 : Int32)).bind fun r_6 => if r_5.1 = 0 then f_X7_readTerm_110  r_6.2 x1 x2 x4 x7 x8 (1 : Int32) r_6.1 else f_X7_readTerm_110  r_6.2 x1 x2 x4 x7 x8 (1 : Int32) (-r_6.1)
set_option maxHeartbeats 4000000 in
set_option maxRecDepth 100000 in
theorem b_X7_readTerm_56 {p : Program} {l : Launch} {e : Env} {s : State} {m : MethodId} {args : Array Value} {below : List Frame} {meth : Method} {c : Code} {G : va_G} {cA : Nat → ClassId} {W9 : va_W} (qM : Nat → Nat) (C0 : Amb p s m args meth c cX7_readTerm RX7 12 none G cA (adr W9) []) {res : MdS} : ∀ (zM : MdS) (x1 : Int32) (x2 : Int64) (x4 : Int64) (x6 : Int32) (x7 : Int32) (x8 : Int32) (x9 : Int32) (H : Heap) (locs : List Loc) (ls : Array Slot), va_P G vwCl ((wMd cA qM zM)) H → va_D (adr W9) ((wMd cA qM zM)) → va_S (adr W9) s.heap H locs → lv_has ls 12 [(0, .ref (qM 0)), (1, .int x1), (2, .long x2), (4, .long x4), (6, .int x6), (7, .int x7), (8, .int x8), (9, .int x9)] → f_X7_readTerm_56 zM x1 x2 x4 x6 x7 x8 x9 = some res → W p l e rm_X7_readTerm s m args below meth c H locs 0 0 (MQ below (qWv G W9 ((wMd cA qM res))) args s 0 0 (adr W9)) (F0 m 56 ls []) := by
  obtain ⟨hx, hb, hr, hml, hown, hts, hlocks, hK, hR, hRA⟩ := id C0
  intro zM x1 x2 x4 x6 x7 x8 x9 H locs ls hP hD hS hl hf
  unfold f_X7_readTerm_56 at hf
  refine lv_aload_n hx hb dX7_readTerm_56 rfl (lv_at hl 0 rfl) ?_
  refine lv_bipush (v := (120 : Int32)) hx hb dX7_readTerm_57 (by decide) ?_
  obtain ⟨r_1, hr_1, hf⟩ := obd hf
  refine cWiV (As := [.int (120 : Int32)]) (rest := []) (W1 := ((wMd cA qM r_1.2))) ⟨hx, hb, hml, hown, hts⟩ (m_X7_takes l G cA qM zM (120 : Int32) r_1 hr_1) (cw_X7_takes hts wi_742 ⟨Nat.le_of_ble_eq_true rfl, Nat.le_of_ble_eq_true rfl⟩) hK hP hD hS [0, 1, 2, 3, 4] [5, 6, 7, 8, 9] rfl rfl rfl (by decide) rfl va_Pnil dj_nil (va_recv hK.1 hP (ci := 5) (q0 := 0) rfl rfl) rfl hl.1 rfl (Nat.le_of_ble_eq_true rfl) dX7_readTerm_59 ⟨Nat.zero_le _, Nat.zero_le _⟩ (fun H locs hP hD hS => ?_)
  refine lv_if_eq (tgt := 112) hx hb dX7_readTerm_62 (by decide) (fun c_2 => ?_) (fun c_2 => ?_)
  · rw [if_pos (c_2)] at hf
    exact b_X7_readTerm_112 qM   C0  r_1.2 x1 x2 x4 x6 x7 x8 x9 H locs ls hP hD hS (lv_sub hl [0, 1, 2, 3, 4, 5, 6, 7] rfl) hf
  · rw [if_neg (c_2)] at hf
    refine lv_iconst (v := 1) hx hb dX7_readTerm_65 (by decide) ?_
    refine lv_istore (lv' := [(9, .int (1 : Int32)), (0, .ref (qM 0)), (1, .int x1), (2, .long x2), (4, .long x4), (6, .int x6), (7, .int x7), (8, .int x8)]) hx hb dX7_readTerm_66 hl (by decide) rfl (fun ls hl => ?_)
    refine lv_iconst (v := 1) hx hb dX7_readTerm_68 (by decide) ?_
    refine lv_istore (lv' := [(6, .int (1 : Int32)), (9, .int (1 : Int32)), (0, .ref (qM 0)), (1, .int x1), (2, .long x2), (4, .long x4), (7, .int x7), (8, .int x8)]) hx hb dX7_readTerm_69 hl (by decide) rfl (fun ls hl => ?_)
    refine lv_aload_n hx hb dX7_readTerm_71 rfl (lv_at hl 2 rfl) ?_
    refine lv_bipush (v := (94 : Int32)) hx hb dX7_readTerm_72 (by decide) ?_
    obtain ⟨r_3, hr_3, hf⟩ := obd hf
    refine cWiV (As := [.int (94 : Int32)]) (rest := []) (W1 := ((wMd cA qM r_3.2))) ⟨hx, hb, hml, hown, hts⟩ (m_X7_takes l G cA qM r_1.2 (94 : Int32) r_3 hr_3) (cw_X7_takes hts wi_742 ⟨Nat.le_of_ble_eq_true rfl, Nat.le_of_ble_eq_true rfl⟩) hK hP hD hS [0, 1, 2, 3, 4] [5, 6, 7, 8, 9] rfl rfl rfl (by decide) rfl va_Pnil dj_nil (va_recv hK.1 hP (ci := 5) (q0 := 0) rfl rfl) rfl hl.1 rfl (Nat.le_of_ble_eq_true rfl) dX7_readTerm_74 ⟨Nat.zero_le _, Nat.zero_le _⟩ (fun H locs hP hD hS => ?_)
    refine lv_if_eq (tgt := 112) hx hb dX7_readTerm_77 (by decide) (fun c_4 => ?_) (fun c_4 => ?_)
    · rw [if_pos (c_4)] at hf
      exact b_X7_readTerm_112 qM   C0  r_3.2 x1 x2 x4 (1 : Int32) x7 x8 (1 : Int32) H locs ls hP hD hS (lv_sub hl [2, 3, 4, 5, 0, 6, 7, 1] rfl) hf
    · rw [if_neg (c_4)] at hf
      refine lv_aload_n hx hb dX7_readTerm_80 rfl (lv_at hl 2 rfl) ?_
      refine lv_bipush (v := (45 : Int32)) hx hb dX7_readTerm_81 (by decide) ?_
      obtain ⟨r_5, hr_5, hf⟩ := obd hf
      refine cWiV (As := [.int (45 : Int32)]) (rest := []) (W1 := ((wMd cA qM r_5.2))) ⟨hx, hb, hml, hown, hts⟩ (m_X7_takes l G cA qM r_3.2 (45 : Int32) r_5 hr_5) (cw_X7_takes hts wi_742 ⟨Nat.le_of_ble_eq_true rfl, Nat.le_of_ble_eq_true rfl⟩) hK hP hD hS [0, 1, 2, 3, 4] [5, 6, 7, 8, 9] rfl rfl rfl (by decide) rfl va_Pnil dj_nil (va_recv hK.1 hP (ci := 5) (q0 := 0) rfl rfl) rfl hl.1 rfl (Nat.le_of_ble_eq_true rfl) dX7_readTerm_83 ⟨Nat.zero_le _, Nat.zero_le _⟩ (fun H locs hP hD hS => ?_)
      refine lv_istore (lv' := [(10, .int r_5.1), (6, .int (1 : Int32)), (9, .int (1 : Int32)), (0, .ref (qM 0)), (1, .int x1), (2, .long x2), (4, .long x4), (7, .int x7), (8, .int x8)]) hx hb dX7_readTerm_86 hl (by decide) rfl (fun ls hl => ?_)
      refine lv_aload_n hx hb dX7_readTerm_88 rfl (lv_at hl 3 rfl) ?_
      refine lv_iconst (v := 0) hx hb dX7_readTerm_89 (by decide) ?_
      refine lv_bipush (v := (12 : Int32)) hx hb dX7_readTerm_90 (by decide) ?_
      obtain ⟨r_6, hr_6, hf⟩ := obd hf
      refine cWiV (As := [.int (0 : Int32), .int (12 : Int32)]) (rest := []) (W1 := ((wMd cA qM r_6.2))) ⟨hx, hb, hml, hown, hts⟩ (m_X7_readNumber l G cA qM r_5.2 (0 : Int32) (12 : Int32) r_6 hr_6) (cw_X7_readNumber hts wi_757 ⟨Nat.le_of_ble_eq_true rfl, Nat.le_of_ble_eq_true rfl⟩) hK hP hD hS [0, 1, 2, 3, 4] [5, 6, 7, 8, 9] rfl rfl rfl (by decide) rfl va_Pnil dj_nil (va_recv hK.1 hP (ci := 5) (q0 := 0) rfl rfl) rfl hl.1 rfl (Nat.le_of_ble_eq_true rfl) dX7_readTerm_92 ⟨Nat.zero_le _, Nat.zero_le _⟩ (fun H locs hP hD hS => ?_)
      refine lv_istore (lv' := [(6, .int r_6.1), (10, .int r_5.1), (9, .int (1 : Int32)), (0, .ref (qM 0)), (1, .int x1), (2, .long x2), (4, .long x4), (7, .int x7), (8, .int x8)]) hx hb dX7_readTerm_95 hl (by decide) rfl (fun ls hl => ?_)
      refine lv_iload hx hb dX7_readTerm_97 (lv_at hl 1 rfl) ?_
      refine lv_if_eq (tgt := 108) hx hb dX7_readTerm_99 (by decide) (fun c_7 => ?_) (fun c_7 => ?_)
      · rw [if_pos (c_7)] at hf
        refine lv_iload hx hb dX7_readTerm_108 (lv_at hl 0 rfl) ?_
        exact b_X7_readTerm_110 qM   C0  r_6.2 x1 x2 x4 x7 x8 (1 : Int32) r_6.1 H locs ls hP hD hS (lv_sub hl [3, 4, 5, 6, 7, 8, 2] rfl) hf
      · rw [if_neg (c_7)] at hf
        refine lv_iload hx hb dX7_readTerm_102 (lv_at hl 0 rfl) ?_
        refine lv_ineg hx hb dX7_readTerm_104 ?_
        refine lv_goto (tgt := 110) hx hb dX7_readTerm_105 (by decide) ?_
        exact b_X7_readTerm_110 qM   C0  r_6.2 x1 x2 x4 x7 x8 (1 : Int32) (-r_6.1) H locs ls hP hD hS (lv_sub hl [3, 4, 5, 6, 7, 8, 2] rfl) hf
def f_X7_readTerm (zM : MdS) (a1 : Int32) : Option (MdS) := (f_X7_next zM).bind fun r_1 => (f_X7_isDigit r_1.1).bind fun r_2 => if r_2 = 0 then f_X7_readTerm_56  r_1.2 a1 (1 : Int64) (1 : Int64) (0 : Int32) (0 : Int32) (0 : Int32) (0 : Int32) else (f_X7_readNumber r_1.2 (0 : Int32) (-1 : Int32)).bind fun r_4 => (f_X7_takes r_4.2 (47 : Int32)).bind fun r_5 => if r_5.1 = 0 then f_X7_readTerm_56  r_5.2 a1 r_4.1.toInt64 (1 : Int64) (0 : Int32) (0 : Int32) (0 : Int32) (1 : Int32) else (f_X7_readNumber r_5.2 (1 : Int32) (-1 : Int32)).bind fun r_7 => f_X7_readTerm_56  r_7.2 a1 r_4.1.toInt64 r_7.1.toInt64 (0 : Int32) (0 : Int32) (0 : Int32) (1 : Int32)
set_option maxHeartbeats 4000000 in
set_option maxRecDepth 100000 in
theorem b_X7_readTerm_0 {p : Program} {l : Launch} {e : Env} {s : State} {m : MethodId} {args : Array Value} {below : List Frame} {meth : Method} {c : Code} {G : va_G} {cA : Nat → ClassId} {W9 : va_W} (qM : Nat → Nat) (C0 : Amb p s m args meth c cX7_readTerm RX7 12 none G cA (adr W9) []) {res : MdS} : ∀ (zM : MdS) (a1 : Int32) (H : Heap) (locs : List Loc) (ls : Array Slot), va_P G vwCl ((wMd cA qM zM)) H → va_D (adr W9) ((wMd cA qM zM)) → va_S (adr W9) s.heap H locs → lv_has ls 12 [(0, .ref (qM 0)), (1, .int a1)] → f_X7_readTerm zM a1 = some res → W p l e rm_X7_readTerm s m args below meth c H locs 0 0 (MQ below (qWv G W9 ((wMd cA qM res))) args s 0 0 (adr W9)) (F0 m 0 ls []) := by
  obtain ⟨hx, hb, hr, hml, hown, hts, hlocks, hK, hR, hRA⟩ := id C0
  intro zM a1 H locs ls hP hD hS hl hf
  unfold f_X7_readTerm at hf
  refine lv_lconst (v := (1 : Int64)) hx hb dX7_readTerm_0 (by decide) ?_
  refine lv_lstore_n (lv' := [(2, .long (1 : Int64)), (0, .ref (qM 0)), (1, .int a1)]) hx hb dX7_readTerm_1 rfl hl (by decide) rfl (fun ls hl => ?_)
  refine lv_lconst (v := (1 : Int64)) hx hb dX7_readTerm_2 (by decide) ?_
  refine lv_lstore (lv' := [(4, .long (1 : Int64)), (2, .long (1 : Int64)), (0, .ref (qM 0)), (1, .int a1)]) hx hb dX7_readTerm_3 hl (by decide) rfl (fun ls hl => ?_)
  refine lv_iconst (v := 0) hx hb dX7_readTerm_5 (by decide) ?_
  refine lv_istore (lv' := [(6, .int (0 : Int32)), (4, .long (1 : Int64)), (2, .long (1 : Int64)), (0, .ref (qM 0)), (1, .int a1)]) hx hb dX7_readTerm_6 hl (by decide) rfl (fun ls hl => ?_)
  refine lv_iconst (v := 0) hx hb dX7_readTerm_8 (by decide) ?_
  refine lv_istore (lv' := [(7, .int (0 : Int32)), (6, .int (0 : Int32)), (4, .long (1 : Int64)), (2, .long (1 : Int64)), (0, .ref (qM 0)), (1, .int a1)]) hx hb dX7_readTerm_9 hl (by decide) rfl (fun ls hl => ?_)
  refine lv_iconst (v := 0) hx hb dX7_readTerm_11 (by decide) ?_
  refine lv_istore (lv' := [(8, .int (0 : Int32)), (7, .int (0 : Int32)), (6, .int (0 : Int32)), (4, .long (1 : Int64)), (2, .long (1 : Int64)), (0, .ref (qM 0)), (1, .int a1)]) hx hb dX7_readTerm_12 hl (by decide) rfl (fun ls hl => ?_)
  refine lv_iconst (v := 0) hx hb dX7_readTerm_14 (by decide) ?_
  refine lv_istore (lv' := [(9, .int (0 : Int32)), (8, .int (0 : Int32)), (7, .int (0 : Int32)), (6, .int (0 : Int32)), (4, .long (1 : Int64)), (2, .long (1 : Int64)), (0, .ref (qM 0)), (1, .int a1)]) hx hb dX7_readTerm_15 hl (by decide) rfl (fun ls hl => ?_)
  refine lv_aload_n hx hb dX7_readTerm_17 rfl (lv_at hl 6 rfl) ?_
  obtain ⟨r_1, hr_1, hf⟩ := obd hf
  refine cWiV (As := []) (rest := []) (W1 := ((wMd cA qM r_1.2))) ⟨hx, hb, hml, hown, hts⟩ (m_X7_next l G cA qM zM r_1 hr_1) (cw_X7_next hts wi_746 ⟨Nat.le_of_ble_eq_true rfl, Nat.le_of_ble_eq_true rfl⟩) hK hP hD hS [0, 1, 2, 3, 4] [5, 6, 7, 8, 9] rfl rfl rfl (by decide) rfl va_Pnil dj_nil (va_recv hK.1 hP (ci := 5) (q0 := 0) rfl rfl) rfl hl.1 rfl (Nat.le_of_ble_eq_true rfl) dX7_readTerm_18 ⟨Nat.zero_le _, Nat.zero_le _⟩ (fun H locs hP hD hS => ?_)
  obtain ⟨r_2, hr_2, hf⟩ := obd hf
  refine cRiS (As := [.int r_1.1]) (rest := []) ⟨hx, hb, hml, hown, hts⟩ (m_X7_isDigit l G cA r_1.1 r_2 hr_2) (cw_X7_isDigit hts wi_754 ⟨Nat.le_of_ble_eq_true rfl, Nat.le_of_ble_eq_true rfl⟩) hK va_Pnil rfl hl.1 rfl (Nat.le_of_ble_eq_true rfl) dX7_readTerm_21 ⟨Nat.zero_le _, Nat.zero_le _⟩ ?_
  refine lv_if_eq (tgt := 56) hx hb dX7_readTerm_24 (by decide) (fun c_3 => ?_) (fun c_3 => ?_)
  · rw [if_pos (c_3)] at hf
    exact b_X7_readTerm_56 qM   C0  r_1.2 a1 (1 : Int64) (1 : Int64) (0 : Int32) (0 : Int32) (0 : Int32) (0 : Int32) H locs ls hP hD hS (lv_sub hl [6, 7, 5, 4, 3, 2, 1, 0] rfl) hf
  · rw [if_neg (c_3)] at hf
    refine lv_aload_n hx hb dX7_readTerm_27 rfl (lv_at hl 6 rfl) ?_
    refine lv_iconst (v := 0) hx hb dX7_readTerm_28 (by decide) ?_
    refine lv_iconst (v := (-1)) hx hb dX7_readTerm_29 (by decide) ?_
    obtain ⟨r_4, hr_4, hf⟩ := obd hf
    refine cWiV (As := [.int (0 : Int32), .int (-1 : Int32)]) (rest := []) (W1 := ((wMd cA qM r_4.2))) ⟨hx, hb, hml, hown, hts⟩ (m_X7_readNumber l G cA qM r_1.2 (0 : Int32) (-1 : Int32) r_4 hr_4) (cw_X7_readNumber hts wi_757 ⟨Nat.le_of_ble_eq_true rfl, Nat.le_of_ble_eq_true rfl⟩) hK hP hD hS [0, 1, 2, 3, 4] [5, 6, 7, 8, 9] rfl rfl rfl (by decide) rfl va_Pnil dj_nil (va_recv hK.1 hP (ci := 5) (q0 := 0) rfl rfl) rfl hl.1 rfl (Nat.le_of_ble_eq_true rfl) dX7_readTerm_30 ⟨Nat.zero_le _, Nat.zero_le _⟩ (fun H locs hP hD hS => ?_)
    refine lv_i2l (v := r_4.1.toInt64) hx hb dX7_readTerm_33 rfl ?_
    refine lv_lstore_n (lv' := [(2, .long r_4.1.toInt64), (9, .int (0 : Int32)), (8, .int (0 : Int32)), (7, .int (0 : Int32)), (6, .int (0 : Int32)), (4, .long (1 : Int64)), (0, .ref (qM 0)), (1, .int a1)]) hx hb dX7_readTerm_34 rfl hl (by decide) rfl (fun ls hl => ?_)
    refine lv_iconst (v := 1) hx hb dX7_readTerm_35 (by decide) ?_
    refine lv_istore (lv' := [(9, .int (1 : Int32)), (2, .long r_4.1.toInt64), (8, .int (0 : Int32)), (7, .int (0 : Int32)), (6, .int (0 : Int32)), (4, .long (1 : Int64)), (0, .ref (qM 0)), (1, .int a1)]) hx hb dX7_readTerm_36 hl (by decide) rfl (fun ls hl => ?_)
    refine lv_aload_n hx hb dX7_readTerm_38 rfl (lv_at hl 6 rfl) ?_
    refine lv_bipush (v := (47 : Int32)) hx hb dX7_readTerm_39 (by decide) ?_
    obtain ⟨r_5, hr_5, hf⟩ := obd hf
    refine cWiV (As := [.int (47 : Int32)]) (rest := []) (W1 := ((wMd cA qM r_5.2))) ⟨hx, hb, hml, hown, hts⟩ (m_X7_takes l G cA qM r_4.2 (47 : Int32) r_5 hr_5) (cw_X7_takes hts wi_742 ⟨Nat.le_of_ble_eq_true rfl, Nat.le_of_ble_eq_true rfl⟩) hK hP hD hS [0, 1, 2, 3, 4] [5, 6, 7, 8, 9] rfl rfl rfl (by decide) rfl va_Pnil dj_nil (va_recv hK.1 hP (ci := 5) (q0 := 0) rfl rfl) rfl hl.1 rfl (Nat.le_of_ble_eq_true rfl) dX7_readTerm_41 ⟨Nat.zero_le _, Nat.zero_le _⟩ (fun H locs hP hD hS => ?_)
    refine lv_if_eq (tgt := 56) hx hb dX7_readTerm_44 (by decide) (fun c_6 => ?_) (fun c_6 => ?_)
    · rw [if_pos (c_6)] at hf
      exact b_X7_readTerm_56 qM   C0  r_5.2 a1 r_4.1.toInt64 (1 : Int64) (0 : Int32) (0 : Int32) (0 : Int32) (1 : Int32) H locs ls hP hD hS (lv_sub hl [6, 7, 1, 5, 4, 3, 2, 0] rfl) hf
    · rw [if_neg (c_6)] at hf
      refine lv_aload_n hx hb dX7_readTerm_47 rfl (lv_at hl 6 rfl) ?_
      refine lv_iconst (v := 1) hx hb dX7_readTerm_48 (by decide) ?_
      refine lv_iconst (v := (-1)) hx hb dX7_readTerm_49 (by decide) ?_
      obtain ⟨r_7, hr_7, hf⟩ := obd hf
      refine cWiV (As := [.int (1 : Int32), .int (-1 : Int32)]) (rest := []) (W1 := ((wMd cA qM r_7.2))) ⟨hx, hb, hml, hown, hts⟩ (m_X7_readNumber l G cA qM r_5.2 (1 : Int32) (-1 : Int32) r_7 hr_7) (cw_X7_readNumber hts wi_757 ⟨Nat.le_of_ble_eq_true rfl, Nat.le_of_ble_eq_true rfl⟩) hK hP hD hS [0, 1, 2, 3, 4] [5, 6, 7, 8, 9] rfl rfl rfl (by decide) rfl va_Pnil dj_nil (va_recv hK.1 hP (ci := 5) (q0 := 0) rfl rfl) rfl hl.1 rfl (Nat.le_of_ble_eq_true rfl) dX7_readTerm_50 ⟨Nat.zero_le _, Nat.zero_le _⟩ (fun H locs hP hD hS => ?_)
      refine lv_i2l (v := r_7.1.toInt64) hx hb dX7_readTerm_53 rfl ?_
      refine lv_lstore (lv' := [(4, .long r_7.1.toInt64), (9, .int (1 : Int32)), (2, .long r_4.1.toInt64), (8, .int (0 : Int32)), (7, .int (0 : Int32)), (6, .int (0 : Int32)), (0, .ref (qM 0)), (1, .int a1)]) hx hb dX7_readTerm_54 hl (by decide) rfl (fun ls hl => ?_)
      exact b_X7_readTerm_56 qM   C0  r_7.2 a1 r_4.1.toInt64 r_7.1.toInt64 (0 : Int32) (0 : Int32) (0 : Int32) (1 : Int32) H locs ls hP hD hS (lv_sub hl [6, 7, 2, 0, 5, 4, 3, 1] rfl) hf

set_option maxRecDepth 100000 in
theorem m_X7_readTerm (l : Launch) (G : va_G) (cA : Nat → ClassId) (qM : Nat → Nat) (zM : MdS) (a1 : Int32) (res : MdS) (hf : f_X7_readTerm zM a1 = some res) : MWv l yX7_readTerm (.code yX7_readTerm cX7_readTerm 12 none :: wd) rm_X7_readTerm G cA [.ref (qM 0), .int a1] ((wMd cA qM zM)) [] ((wMd cA qM res)) := by
  refine Met.ofW (cc := cX7_readTerm) (maxL := 12) (ret := none) (by decide) rfl ?_
  intro p e s m args below meth c s₁ B hml hv
  obtain ⟨rfl, hK, hP, hD0, hR, hRA⟩ := hv
  have C0 : Amb p s m ([.ref (qM 0), .int a1] : List Value).toArray meth c cX7_readTerm RX7 12 none G cA (adr ((wMd cA qM zM))) [] := ⟨B.exec, B.bytes, B.returns, hml, findClass_of_methodNamed B.named, fun w h => atoms_spec (ws := (.code yX7_readTerm cX7_readTerm 12 none :: wd)) B.pre w (List.mem_cons_of_mem _ h), B.notSynchronized, hK, hR, hRA⟩
  have hl := lv_entry ([.ref (qM 0), .int a1]) (n := 12) (Nat.le_of_ble_eq_true rfl)
  rw [lg_entry_eq]
  generalize (lg_sl ([.ref (qM 0), .int a1]) ++ List.replicate (12 - (lg_sl ([.ref (qM 0), .int a1])).length) Slot.unset).toArray = ls at hl ⊢
  have hl : lv_has ls 12 [(0, .ref (qM 0)), (1, .int a1)] := hl
  exact b_X7_readTerm_0 (W9 := ((wMd cA qM zM))) qM   C0 zM a1 s.heap [] ls hP (adr.self hD0) va_S.rf hl hf
theorem cw_X7_readTerm {R : Room} {s : State} {args : Array Value} {own : String} {index : Nat} (ht : ∀ w ∈ wd, w.before args s = true) (hlink : Cond.methodLink own index yX7_readTerm ∈ wd) (hR : rm_X7_readTerm.frames + 1 ≤ R.frames ∧ 8 + (12 + 11) + rm_X7_readTerm.locals ≤ R.locals) : CallW R s args own RX7 index yX7_readTerm cX7_readTerm 12 none (.code yX7_readTerm cX7_readTerm 12 none :: wd) rm_X7_readTerm 0 0 1 := cwV9 1 ht wi_753 wi_752 wi_33 wi_60 hlink (by decide +kernel) rfl rfl hR
def rm_X7_read : Room := { frames := 4, cells := 0, slots := 0, locals := 99 }
def f_X7_read_159 (zM : MdS) (x1 : Int32) : Option (Int32 × MdS) := if (gM_fault zM) = 0 then (f_X7_finish zM x1).bind fun r_2 => some (r_2.1, r_2.2) else some ((gM_fault zM), zM)
set_option maxHeartbeats 4000000 in
set_option maxRecDepth 100000 in
theorem b_X7_read_159 {p : Program} {l : Launch} {e : Env} {s : State} {m : MethodId} {args : Array Value} {below : List Frame} {meth : Method} {c : Code} {G : va_G} {cA : Nat → ClassId} {W9 : va_W} (qM : Nat → Nat) (C0 : Amb p s m args meth c cX7_read RX7 4 (some .int) G cA (adr W9) []) {res : Int32 × MdS} : ∀ (zM : MdS) (x1 : Int32) (H : Heap) (locs : List Loc) (ls : Array Slot), va_P G vwCl ((wMd cA qM zM)) H → va_D (adr W9) ((wMd cA qM zM)) → va_S (adr W9) s.heap H locs → lv_has ls 4 [(0, .ref (qM 0)), (1, .int x1)] → f_X7_read_159 zM x1 = some res → W p l e rm_X7_read s m args below meth c H locs 0 0 (MQ below (qWi G W9 ((wMd cA qM res.2)) res.1) args s 0 0 (adr W9)) (F0 m 159 ls []) := by
  obtain ⟨hx, hb, hr, hml, hown, hts, hlocks, hK, hR, hRA⟩ := id C0
  intro zM x1 H locs ls hP hD hS hl hf
  unfold f_X7_read_159 at hf
  refine lv_aload_n hx hb dX7_read_159 rfl (lv_at hl 0 rfl) ?_
  refine va_get (D := G) (ci := 5) (v := .int (gM_fault zM)) (C := RX7) (T := TX7) (N := 13) hx hb hts fin_X7 hown hK.1 hP 0 rfl rfl 10 (by decide) (hts _ wi_681) (fun _ h9 => h9) rfl dX7_read_160 ?_
  refine lv_if_eq (tgt := 173) hx hb dX7_read_163 (by decide) (fun c_1 => ?_) (fun c_1 => ?_)
  · rw [if_pos (c_1)] at hf
    refine lv_aload_n hx hb dX7_read_173 rfl (lv_at hl 0 rfl) ?_
    refine lv_iload_n hx hb dX7_read_174 rfl (lv_at hl 1 rfl) ?_
    obtain ⟨r_2, hr_2, hf⟩ := obd hf
    refine cWiV (As := [.int x1]) (rest := []) (W1 := ((wMd cA qM r_2.2))) ⟨hx, hb, hml, hown, hts⟩ (m_X7_finish l G cA qM zM x1 r_2 hr_2) (cw_X7_finish hts wi_790 ⟨Nat.le_of_ble_eq_true rfl, Nat.le_of_ble_eq_true rfl⟩) hK hP hD hS [0, 1, 2, 3, 4] [5, 6, 7, 8, 9] rfl rfl rfl (by decide) rfl va_Pnil dj_nil (va_recv hK.1 hP (ci := 5) (q0 := 0) rfl rfl) rfl hl.1 rfl (Nat.le_of_ble_eq_true rfl) dX7_read_175 ⟨Nat.zero_le _, Nat.zero_le _⟩ (fun H locs hP hD hS => ?_)
    cases hf
    exact W.iret hx hb hr (fun t ht hW => ⟨⟨_, (), rfl, rfl, toT ht hP⟩, hS.F ht⟩) hS.2.2 dX7_read_178 hlocks
  · rw [if_neg (c_1)] at hf
    refine lv_aload_n hx hb dX7_read_166 rfl (lv_at hl 0 rfl) ?_
    refine va_get (D := G) (ci := 5) (v := .int (gM_fault zM)) (C := RX7) (T := TX7) (N := 13) hx hb hts fin_X7 hown hK.1 hP 0 rfl rfl 10 (by decide) (hts _ wi_681) (fun _ h9 => h9) rfl dX7_read_167 ?_
    refine lv_goto (tgt := 178) hx hb dX7_read_170 (by decide) ?_
    cases hf
    exact W.iret hx hb hr (fun t ht hW => ⟨⟨_, (), rfl, rfl, toT ht hP⟩, hS.F ht⟩) hS.2.2 dX7_read_178 hlocks
def f_X7_read_117 (kb_56 : MdS → Int32 → Int32 → Int32 → Option (Int32 × MdS)) (zM : MdS) (x1 : Int32) (x2 : Int32) (v0 : Int32) : Option (Int32 × MdS) := if v0 = 0 then kb_56 zM x1 x2 v0 else kb_56 (uM_at zM ((gM_at zM) + (1 : Int32))) x1 x2 v0
set_option maxHeartbeats 4000000 in
set_option maxRecDepth 100000 in
theorem b_X7_read_117 {p : Program} {l : Launch} {e : Env} {s : State} {m : MethodId} {args : Array Value} {below : List Frame} {meth : Method} {c : Code} {G : va_G} {cA : Nat → ClassId} {W9 : va_W} (qM : Nat → Nat) (C0 : Amb p s m args meth c cX7_read RX7 4 (some .int) G cA (adr W9) []) {res : Int32 × MdS} (kb_56 : MdS → Int32 → Int32 → Int32 → Option (Int32 × MdS)) (hkb_56 : ∀ (zM : MdS) (x1 : Int32) (x2 : Int32) (x3 : Int32) (H : Heap) (locs : List Loc) (ls : Array Slot), va_P G vwCl ((wMd cA qM zM)) H → va_D (adr W9) ((wMd cA qM zM)) → va_S (adr W9) s.heap H locs → lv_has ls 4 [(0, .ref (qM 0)), (1, .int x1), (2, .int x2), (3, .int x3)] → kb_56 zM x1 x2 x3 = some res → W p l e rm_X7_read s m args below meth c H locs 0 0 (MQ below (qWi G W9 ((wMd cA qM res.2)) res.1) args s 0 0 (adr W9)) (F0 m 56 ls [])) : ∀ (zM : MdS) (x1 : Int32) (x2 : Int32) (v0 : Int32) (H : Heap) (locs : List Loc) (ls : Array Slot), va_P G vwCl ((wMd cA qM zM)) H → va_D (adr W9) ((wMd cA qM zM)) → va_S (adr W9) s.heap H locs → lv_has ls 4 [(0, .ref (qM 0)), (1, .int x1), (2, .int x2)] → f_X7_read_117 kb_56 zM x1 x2 v0 = some res → W p l e rm_X7_read s m args below meth c H locs 0 0 (MQ below (qWi G W9 ((wMd cA qM res.2)) res.1) args s 0 0 (adr W9)) (F0 m 117 ls [.int v0]) := by
  obtain ⟨hx, hb, hr, hml, hown, hts, hlocks, hK, hR, hRA⟩ := id C0
  intro zM x1 x2 v0 H locs ls hP hD hS hl hf
  unfold f_X7_read_117 at hf
  refine lv_istore_n (lv' := [(3, .int v0), (0, .ref (qM 0)), (1, .int x1), (2, .int x2)]) hx hb dX7_read_117 rfl hl (by decide) rfl (fun ls hl => ?_)
  refine lv_iload_n hx hb dX7_read_118 rfl (lv_at hl 0 rfl) ?_
  refine lv_if_eq (tgt := 56) hx hb dX7_read_119 (by decide) (fun c_1 => ?_) (fun c_1 => ?_)
  · rw [if_pos (c_1)] at hf
    exact hkb_56 zM x1 x2 v0 H locs ls hP hD hS (lv_sub hl [1, 2, 3, 0] rfl) hf
  · rw [if_neg (c_1)] at hf
    refine lv_aload_n hx hb dX7_read_122 rfl (lv_at hl 1 rfl) ?_
    refine lv_dup hx hb dX7_read_123 rfl ?_
    refine va_get (D := G) (ci := 5) (v := .int (gM_at zM)) (C := RX7) (T := TX7) (N := 13) hx hb hts fin_X7 hown hK.1 hP 0 rfl rfl 9 (by decide) (hts _ wi_680) (fun _ h9 => h9) rfl dX7_read_124 ?_
    refine lv_iconst (v := 1) hx hb dX7_read_127 (by decide) ?_
    refine lv_iadd hx hb dX7_read_128 ?_
    refine va_put (D := G) (ci := 5) (v := .int ((gM_at zM) + (1 : Int32))) (ty := .int) (C := RX7) (T := TX7) (N := 13) hx hb hts fin_X7 tyX7 tyX7_ok nmX7 hown hK.1 hP hD hS 0 rfl rfl 9 (by decide) (hts _ wi_680) (fun _ h9 => h9) rfl (by decide +kernel) rfl rfl (Nat.le_of_ble_eq_true rfl) dX7_read_129 (fun H locs hP hD hS => ?_)
    have hP : va_P G vwCl ((wMd cA qM (uM_at zM ((gM_at zM) + (1 : Int32))))) H := hP
    have hD : va_D (adr W9) ((wMd cA qM (uM_at zM ((gM_at zM) + (1 : Int32))))) := hD
    refine lv_goto (tgt := 56) hx hb dX7_read_132 (by decide) ?_
    exact hkb_56 (uM_at zM ((gM_at zM) + (1 : Int32))) x1 x2 v0 H locs ls hP hD hS (lv_sub hl [1, 2, 3, 0] rfl) hf
def f_X7_read_116 (kb_56 : MdS → Int32 → Int32 → Int32 → Option (Int32 × MdS)) (zM : MdS) (x1 : Int32) (x2 : Int32) : Option (Int32 × MdS) := f_X7_read_117 kb_56 zM x1 x2 (0 : Int32)
set_option maxHeartbeats 4000000 in
set_option maxRecDepth 100000 in
theorem b_X7_read_116 {p : Program} {l : Launch} {e : Env} {s : State} {m : MethodId} {args : Array Value} {below : List Frame} {meth : Method} {c : Code} {G : va_G} {cA : Nat → ClassId} {W9 : va_W} (qM : Nat → Nat) (C0 : Amb p s m args meth c cX7_read RX7 4 (some .int) G cA (adr W9) []) {res : Int32 × MdS} (kb_56 : MdS → Int32 → Int32 → Int32 → Option (Int32 × MdS)) (hkb_56 : ∀ (zM : MdS) (x1 : Int32) (x2 : Int32) (x3 : Int32) (H : Heap) (locs : List Loc) (ls : Array Slot), va_P G vwCl ((wMd cA qM zM)) H → va_D (adr W9) ((wMd cA qM zM)) → va_S (adr W9) s.heap H locs → lv_has ls 4 [(0, .ref (qM 0)), (1, .int x1), (2, .int x2), (3, .int x3)] → kb_56 zM x1 x2 x3 = some res → W p l e rm_X7_read s m args below meth c H locs 0 0 (MQ below (qWi G W9 ((wMd cA qM res.2)) res.1) args s 0 0 (adr W9)) (F0 m 56 ls [])) : ∀ (zM : MdS) (x1 : Int32) (x2 : Int32) (H : Heap) (locs : List Loc) (ls : Array Slot), va_P G vwCl ((wMd cA qM zM)) H → va_D (adr W9) ((wMd cA qM zM)) → va_S (adr W9) s.heap H locs → lv_has ls 4 [(0, .ref (qM 0)), (1, .int x1), (2, .int x2)] → f_X7_read_116 kb_56 zM x1 x2 = some res → W p l e rm_X7_read s m args below meth c H locs 0 0 (MQ below (qWi G W9 ((wMd cA qM res.2)) res.1) args s 0 0 (adr W9)) (F0 m 116 ls []) := by
  obtain ⟨hx, hb, hr, hml, hown, hts, hlocks, hK, hR, hRA⟩ := id C0
  intro zM x1 x2 H locs ls hP hD hS hl hf
  unfold f_X7_read_116 at hf
  refine lv_iconst (v := 0) hx hb dX7_read_116 (by decide) ?_
  exact b_X7_read_117 qM   C0 kb_56 hkb_56 zM x1 x2 (0 : Int32) H locs ls hP hD hS (lv_sub hl [0, 1, 2] rfl) hf
def f_X7_read_112 (kb_56 : MdS → Int32 → Int32 → Int32 → Option (Int32 × MdS)) (zM : MdS) (x1 : Int32) (x2 : Int32) : Option (Int32 × MdS) := f_X7_read_117 kb_56 zM x1 x2 (1 : Int32)
set_option maxHeartbeats 4000000 in
set_option maxRecDepth 100000 in
theorem b_X7_read_112 {p : Program} {l : Launch} {e : Env} {s : State} {m : MethodId} {args : Array Value} {below : List Frame} {meth : Method} {c : Code} {G : va_G} {cA : Nat → ClassId} {W9 : va_W} (qM : Nat → Nat) (C0 : Amb p s m args meth c cX7_read RX7 4 (some .int) G cA (adr W9) []) {res : Int32 × MdS} (kb_56 : MdS → Int32 → Int32 → Int32 → Option (Int32 × MdS)) (hkb_56 : ∀ (zM : MdS) (x1 : Int32) (x2 : Int32) (x3 : Int32) (H : Heap) (locs : List Loc) (ls : Array Slot), va_P G vwCl ((wMd cA qM zM)) H → va_D (adr W9) ((wMd cA qM zM)) → va_S (adr W9) s.heap H locs → lv_has ls 4 [(0, .ref (qM 0)), (1, .int x1), (2, .int x2), (3, .int x3)] → kb_56 zM x1 x2 x3 = some res → W p l e rm_X7_read s m args below meth c H locs 0 0 (MQ below (qWi G W9 ((wMd cA qM res.2)) res.1) args s 0 0 (adr W9)) (F0 m 56 ls [])) : ∀ (zM : MdS) (x1 : Int32) (x2 : Int32) (H : Heap) (locs : List Loc) (ls : Array Slot), va_P G vwCl ((wMd cA qM zM)) H → va_D (adr W9) ((wMd cA qM zM)) → va_S (adr W9) s.heap H locs → lv_has ls 4 [(0, .ref (qM 0)), (1, .int x1), (2, .int x2)] → f_X7_read_112 kb_56 zM x1 x2 = some res → W p l e rm_X7_read s m args below meth c H locs 0 0 (MQ below (qWi G W9 ((wMd cA qM res.2)) res.1) args s 0 0 (adr W9)) (F0 m 112 ls []) := by
  obtain ⟨hx, hb, hr, hml, hown, hts, hlocks, hK, hR, hRA⟩ := id C0
  intro zM x1 x2 H locs ls hP hD hS hl hf
  unfold f_X7_read_112 at hf
  refine lv_iconst (v := 1) hx hb dX7_read_112 (by decide) ?_
  refine lv_goto (tgt := 117) hx hb dX7_read_113 (by decide) ?_
  exact b_X7_read_117 qM   C0 kb_56 hkb_56 zM x1 x2 (1 : Int32) H locs ls hP hD hS (lv_sub hl [0, 1, 2] rfl) hf
def f_X7_read_86 (kb_56 : MdS → Int32 → Int32 → Int32 → Option (Int32 × MdS)) (zM : MdS) (x1 : Int32) (v0 : Int32) : Option (Int32 × MdS) := if ¬ (gM_fault zM) = 0 then f_X7_read_116 kb_56 zM x1 v0 else (f_X7_next zM).bind fun r_2 => if r_2.1 = (43 : Int32) then f_X7_read_112 kb_56 r_2.2 x1 v0 else (f_X7_next r_2.2).bind fun r_4 => if ¬ r_4.1 = (45 : Int32) then f_X7_read_116 kb_56 r_4.2 x1 v0 else f_X7_read_112 kb_56 r_4.2 x1 v0
set_option maxHeartbeats 4000000 in
set_option maxRecDepth 100000 in
theorem b_X7_read_86 {p : Program} {l : Launch} {e : Env} {s : State} {m : MethodId} {args : Array Value} {below : List Frame} {meth : Method} {c : Code} {G : va_G} {cA : Nat → ClassId} {W9 : va_W} (qM : Nat → Nat) (C0 : Amb p s m args meth c cX7_read RX7 4 (some .int) G cA (adr W9) []) {res : Int32 × MdS} (kb_56 : MdS → Int32 → Int32 → Int32 → Option (Int32 × MdS)) (hkb_56 : ∀ (zM : MdS) (x1 : Int32) (x2 : Int32) (x3 : Int32) (H : Heap) (locs : List Loc) (ls : Array Slot), va_P G vwCl ((wMd cA qM zM)) H → va_D (adr W9) ((wMd cA qM zM)) → va_S (adr W9) s.heap H locs → lv_has ls 4 [(0, .ref (qM 0)), (1, .int x1), (2, .int x2), (3, .int x3)] → kb_56 zM x1 x2 x3 = some res → W p l e rm_X7_read s m args below meth c H locs 0 0 (MQ below (qWi G W9 ((wMd cA qM res.2)) res.1) args s 0 0 (adr W9)) (F0 m 56 ls [])) : ∀ (zM : MdS) (x1 : Int32) (v0 : Int32) (H : Heap) (locs : List Loc) (ls : Array Slot), va_P G vwCl ((wMd cA qM zM)) H → va_D (adr W9) ((wMd cA qM zM)) → va_S (adr W9) s.heap H locs → lv_has ls 4 [(0, .ref (qM 0)), (1, .int x1)] → f_X7_read_86 kb_56 zM x1 v0 = some res → W p l e rm_X7_read s m args below meth c H locs 0 0 (MQ below (qWi G W9 ((wMd cA qM res.2)) res.1) args s 0 0 (adr W9)) (F0 m 86 ls [.int v0]) := by
  obtain ⟨hx, hb, hr, hml, hown, hts, hlocks, hK, hR, hRA⟩ := id C0
  intro zM x1 v0 H locs ls hP hD hS hl hf
  unfold f_X7_read_86 at hf
  refine lv_istore_n (lv' := [(2, .int v0), (0, .ref (qM 0)), (1, .int x1)]) hx hb dX7_read_86 rfl hl (by decide) rfl (fun ls hl => ?_)
  refine lv_aload_n hx hb dX7_read_87 rfl (lv_at hl 1 rfl) ?_
  refine va_get (D := G) (ci := 5) (v := .int (gM_fault zM)) (C := RX7) (T := TX7) (N := 13) hx hb hts fin_X7 hown hK.1 hP 0 rfl rfl 10 (by decide) (hts _ wi_681) (fun _ h9 => h9) rfl dX7_read_88 ?_
  refine lv_if_ne (tgt := 116) hx hb dX7_read_91 (by decide) (fun c_1 => ?_) (fun c_1 => ?_)
  · rw [if_pos (c_1)] at hf
    exact b_X7_read_116 qM   C0 kb_56 hkb_56 zM x1 v0 H locs ls hP hD hS (lv_sub hl [1, 2, 0] rfl) hf
  · rw [if_neg (not_not_intro c_1)] at hf
    refine lv_aload_n hx hb dX7_read_94 rfl (lv_at hl 1 rfl) ?_
    obtain ⟨r_2, hr_2, hf⟩ := obd hf
    refine cWiV (As := []) (rest := []) (W1 := ((wMd cA qM r_2.2))) ⟨hx, hb, hml, hown, hts⟩ (m_X7_next l G cA qM zM r_2 hr_2) (cw_X7_next hts wi_746 ⟨Nat.le_of_ble_eq_true rfl, Nat.le_of_ble_eq_true rfl⟩) hK hP hD hS [0, 1, 2, 3, 4] [5, 6, 7, 8, 9] rfl rfl rfl (by decide) rfl va_Pnil dj_nil (va_recv hK.1 hP (ci := 5) (q0 := 0) rfl rfl) rfl hl.1 rfl (Nat.le_of_ble_eq_true rfl) dX7_read_95 ⟨Nat.zero_le _, Nat.zero_le _⟩ (fun H locs hP hD hS => ?_)
    refine lv_bipush (v := (43 : Int32)) hx hb dX7_read_98 (by decide) ?_
    refine lv_icmp_eq (tgt := 112) hx hb dX7_read_100 (by decide) (fun c_3 => ?_) (fun c_3 => ?_)
    · rw [if_pos (c_3)] at hf
      exact b_X7_read_112 qM   C0 kb_56 hkb_56 r_2.2 x1 v0 H locs ls hP hD hS (lv_sub hl [1, 2, 0] rfl) hf
    · rw [if_neg (c_3)] at hf
      refine lv_aload_n hx hb dX7_read_103 rfl (lv_at hl 1 rfl) ?_
      obtain ⟨r_4, hr_4, hf⟩ := obd hf
      refine cWiV (As := []) (rest := []) (W1 := ((wMd cA qM r_4.2))) ⟨hx, hb, hml, hown, hts⟩ (m_X7_next l G cA qM r_2.2 r_4 hr_4) (cw_X7_next hts wi_746 ⟨Nat.le_of_ble_eq_true rfl, Nat.le_of_ble_eq_true rfl⟩) hK hP hD hS [0, 1, 2, 3, 4] [5, 6, 7, 8, 9] rfl rfl rfl (by decide) rfl va_Pnil dj_nil (va_recv hK.1 hP (ci := 5) (q0 := 0) rfl rfl) rfl hl.1 rfl (Nat.le_of_ble_eq_true rfl) dX7_read_104 ⟨Nat.zero_le _, Nat.zero_le _⟩ (fun H locs hP hD hS => ?_)
      refine lv_bipush (v := (45 : Int32)) hx hb dX7_read_107 (by decide) ?_
      refine lv_icmp_ne (tgt := 116) hx hb dX7_read_109 (by decide) (fun c_5 => ?_) (fun c_5 => ?_)
      · rw [if_pos (c_5)] at hf
        exact b_X7_read_116 qM   C0 kb_56 hkb_56 r_4.2 x1 v0 H locs ls hP hD hS (lv_sub hl [1, 2, 0] rfl) hf
      · rw [if_neg (not_not_intro c_5)] at hf
        exact b_X7_read_112 qM   C0 kb_56 hkb_56 r_4.2 x1 v0 H locs ls hP hD hS (lv_sub hl [1, 2, 0] rfl) hf
def f_X7_read_85 (kb_56 : MdS → Int32 → Int32 → Int32 → Option (Int32 × MdS)) (zM : MdS) (x1 : Int32) : Option (Int32 × MdS) := f_X7_read_86 kb_56 zM x1 (0 : Int32)
set_option maxHeartbeats 4000000 in
set_option maxRecDepth 100000 in
theorem b_X7_read_85 {p : Program} {l : Launch} {e : Env} {s : State} {m : MethodId} {args : Array Value} {below : List Frame} {meth : Method} {c : Code} {G : va_G} {cA : Nat → ClassId} {W9 : va_W} (qM : Nat → Nat) (C0 : Amb p s m args meth c cX7_read RX7 4 (some .int) G cA (adr W9) []) {res : Int32 × MdS} (kb_56 : MdS → Int32 → Int32 → Int32 → Option (Int32 × MdS)) (hkb_56 : ∀ (zM : MdS) (x1 : Int32) (x2 : Int32) (x3 : Int32) (H : Heap) (locs : List Loc) (ls : Array Slot), va_P G vwCl ((wMd cA qM zM)) H → va_D (adr W9) ((wMd cA qM zM)) → va_S (adr W9) s.heap H locs → lv_has ls 4 [(0, .ref (qM 0)), (1, .int x1), (2, .int x2), (3, .int x3)] → kb_56 zM x1 x2 x3 = some res → W p l e rm_X7_read s m args below meth c H locs 0 0 (MQ below (qWi G W9 ((wMd cA qM res.2)) res.1) args s 0 0 (adr W9)) (F0 m 56 ls [])) : ∀ (zM : MdS) (x1 : Int32) (H : Heap) (locs : List Loc) (ls : Array Slot), va_P G vwCl ((wMd cA qM zM)) H → va_D (adr W9) ((wMd cA qM zM)) → va_S (adr W9) s.heap H locs → lv_has ls 4 [(0, .ref (qM 0)), (1, .int x1)] → f_X7_read_85 kb_56 zM x1 = some res → W p l e rm_X7_read s m args below meth c H locs 0 0 (MQ below (qWi G W9 ((wMd cA qM res.2)) res.1) args s 0 0 (adr W9)) (F0 m 85 ls []) := by
  obtain ⟨hx, hb, hr, hml, hown, hts, hlocks, hK, hR, hRA⟩ := id C0
  intro zM x1 H locs ls hP hD hS hl hf
  unfold f_X7_read_85 at hf
  refine lv_iconst (v := 0) hx hb dX7_read_85 (by decide) ?_
  exact b_X7_read_86 qM   C0 kb_56 hkb_56 zM x1 (0 : Int32) H locs ls hP hD hS (lv_sub hl [0, 1] rfl) hf
def f_X7_read_56  : Nat → MdS → Int32 → Int32 → Int32 → Option (Int32 × MdS)
  | 0, _, _, _, _ => none
  | fu + 1, zM, x1, x2, x3 => if x3 = 0 then if ¬ (gM_fault zM) = 0 then f_X7_read_159  zM x1 else (f_X7_next zM).bind fun r_3 => if r_3.1 = 0 then f_X7_read_159  r_3.2 x1 else (f_X7_wrong r_3.2 (-2 : Int32) (gM_at r_3.2)).bind fun r_5 => f_X7_read_159  r_5 x1 else (f_X7_readTerm zM x2).bind fun r_6 => if ¬ (gM_fault r_6) = 0 then f_X7_read_85 (fun zM_ x1_ x2_ x3_ => f_X7_read_56  fu zM_ x1_ x2_ x3_) r_6 x1 else (f_X7_next r_6).bind fun r_8 => if ¬ r_8.1 = (45 : Int32) then f_X7_read_85 (fun zM_ x1_ x2_ x3_ => f_X7_read_56  fu zM_ x1_ x2_ x3_) r_8.2 x1 else f_X7_read_86 (fun zM_ x1_ x2_ x3_ => f_X7_read_56  fu zM_ x1_ x2_ x3_) r_8.2 x1 (1 : Int32)
set_option maxHeartbeats 4000000 in
set_option maxRecDepth 100000 in
theorem b_X7_read_56 {p : Program} {l : Launch} {e : Env} {s : State} {m : MethodId} {args : Array Value} {below : List Frame} {meth : Method} {c : Code} {G : va_G} {cA : Nat → ClassId} {W9 : va_W} (qM : Nat → Nat) (C0 : Amb p s m args meth c cX7_read RX7 4 (some .int) G cA (adr W9) []) {res : Int32 × MdS} : ∀ (fu : Nat) (zM : MdS) (x1 : Int32) (x2 : Int32) (x3 : Int32) (H : Heap) (locs : List Loc) (ls : Array Slot), va_P G vwCl ((wMd cA qM zM)) H → va_D (adr W9) ((wMd cA qM zM)) → va_S (adr W9) s.heap H locs → lv_has ls 4 [(0, .ref (qM 0)), (1, .int x1), (2, .int x2), (3, .int x3)] → f_X7_read_56 fu zM x1 x2 x3 = some res → W p l e rm_X7_read s m args below meth c H locs 0 0 (MQ below (qWi G W9 ((wMd cA qM res.2)) res.1) args s 0 0 (adr W9)) (F0 m 56 ls []) := by
  obtain ⟨hx, hb, hr, hml, hown, hts, hlocks, hK, hR, hRA⟩ := id C0
  intro fu
  induction fu with
  | zero =>
    intro zM x1 x2 x3 H locs ls hP hD hS hl hf
    rw [f_X7_read_56] at hf
    cases hf
  | succ fu ih =>
    intro zM x1 x2 x3 H locs ls hP hD hS hl hf
    rw [f_X7_read_56] at hf
    refine lv_iload_n hx hb dX7_read_56 rfl (lv_at hl 3 rfl) ?_
    refine lv_if_eq (tgt := 135) hx hb dX7_read_57 (by decide) (fun c_1 => ?_) (fun c_1 => ?_)
    · rw [if_pos (c_1)] at hf
      refine lv_aload_n hx hb dX7_read_135 rfl (lv_at hl 0 rfl) ?_
      refine va_get (D := G) (ci := 5) (v := .int (gM_fault zM)) (C := RX7) (T := TX7) (N := 13) hx hb hts fin_X7 hown hK.1 hP 0 rfl rfl 10 (by decide) (hts _ wi_681) (fun _ h9 => h9) rfl dX7_read_136 ?_
      refine lv_if_ne (tgt := 159) hx hb dX7_read_139 (by decide) (fun c_2 => ?_) (fun c_2 => ?_)
      · rw [if_pos (c_2)] at hf
        exact b_X7_read_159 qM   C0  zM x1 H locs ls hP hD hS (lv_sub hl [0, 1] rfl) hf
      · rw [if_neg (not_not_intro c_2)] at hf
        refine lv_aload_n hx hb dX7_read_142 rfl (lv_at hl 0 rfl) ?_
        obtain ⟨r_3, hr_3, hf⟩ := obd hf
        refine cWiV (As := []) (rest := []) (W1 := ((wMd cA qM r_3.2))) ⟨hx, hb, hml, hown, hts⟩ (m_X7_next l G cA qM zM r_3 hr_3) (cw_X7_next hts wi_746 ⟨Nat.le_of_ble_eq_true rfl, Nat.le_of_ble_eq_true rfl⟩) hK hP hD hS [0, 1, 2, 3, 4] [5, 6, 7, 8, 9] rfl rfl rfl (by decide) rfl va_Pnil dj_nil (va_recv hK.1 hP (ci := 5) (q0 := 0) rfl rfl) rfl hl.1 rfl (Nat.le_of_ble_eq_true rfl) dX7_read_143 ⟨Nat.zero_le _, Nat.zero_le _⟩ (fun H locs hP hD hS => ?_)
        refine lv_if_eq (tgt := 159) hx hb dX7_read_146 (by decide) (fun c_4 => ?_) (fun c_4 => ?_)
        · rw [if_pos (c_4)] at hf
          exact b_X7_read_159 qM   C0  r_3.2 x1 H locs ls hP hD hS (lv_sub hl [0, 1] rfl) hf
        · rw [if_neg (c_4)] at hf
          refine lv_aload_n hx hb dX7_read_149 rfl (lv_at hl 0 rfl) ?_
          refine lv_bipush (v := (-2 : Int32)) hx hb dX7_read_150 (by decide) ?_
          refine lv_aload_n hx hb dX7_read_152 rfl (lv_at hl 0 rfl) ?_
          refine va_get (D := G) (ci := 5) (v := .int (gM_at r_3.2)) (C := RX7) (T := TX7) (N := 13) hx hb hts fin_X7 hown hK.1 hP 0 rfl rfl 9 (by decide) (hts _ wi_680) (fun _ h9 => h9) rfl dX7_read_153 ?_
          obtain ⟨r_5, hr_5, hf⟩ := obd hf
          refine cWvV (As := [.int (-2 : Int32), .int (gM_at r_3.2)]) (rest := []) (W1 := ((wMd cA qM r_5))) ⟨hx, hb, hml, hown, hts⟩ (m_X7_wrong l G cA qM r_3.2 (-2 : Int32) (gM_at r_3.2) r_5 hr_5) (cw_X7_wrong hts wi_761 ⟨Nat.le_of_ble_eq_true rfl, Nat.le_of_ble_eq_true rfl⟩) hK hP hD hS [0, 1, 2, 3, 4] [5, 6, 7, 8, 9] rfl rfl rfl (by decide) rfl va_Pnil dj_nil (va_recv hK.1 hP (ci := 5) (q0 := 0) rfl rfl) rfl hl.1 rfl (Nat.le_of_ble_eq_true rfl) dX7_read_156 ⟨Nat.zero_le _, Nat.zero_le _⟩ (fun H locs hP hD hS => ?_)
          exact b_X7_read_159 qM   C0  r_5 x1 H locs ls hP hD hS (lv_sub hl [0, 1] rfl) hf
    · rw [if_neg (c_1)] at hf
      refine lv_aload_n hx hb dX7_read_60 rfl (lv_at hl 0 rfl) ?_
      refine lv_iload_n hx hb dX7_read_61 rfl (lv_at hl 2 rfl) ?_
      obtain ⟨r_6, hr_6, hf⟩ := obd hf
      refine cWvV (As := [.int x2]) (rest := []) (W1 := ((wMd cA qM r_6))) ⟨hx, hb, hml, hown, hts⟩ (m_X7_readTerm l G cA qM zM x2 r_6 hr_6) (cw_X7_readTerm hts wi_750 ⟨Nat.le_of_ble_eq_true rfl, Nat.le_of_ble_eq_true rfl⟩) hK hP hD hS [0, 1, 2, 3, 4] [5, 6, 7, 8, 9] rfl rfl rfl (by decide) rfl va_Pnil dj_nil (va_recv hK.1 hP (ci := 5) (q0 := 0) rfl rfl) rfl hl.1 rfl (Nat.le_of_ble_eq_true rfl) dX7_read_62 ⟨Nat.zero_le _, Nat.zero_le _⟩ (fun H locs hP hD hS => ?_)
      refine lv_aload_n hx hb dX7_read_65 rfl (lv_at hl 0 rfl) ?_
      refine va_get (D := G) (ci := 5) (v := .int (gM_fault r_6)) (C := RX7) (T := TX7) (N := 13) hx hb hts fin_X7 hown hK.1 hP 0 rfl rfl 10 (by decide) (hts _ wi_681) (fun _ h9 => h9) rfl dX7_read_66 ?_
      refine lv_if_ne (tgt := 85) hx hb dX7_read_69 (by decide) (fun c_7 => ?_) (fun c_7 => ?_)
      · rw [if_pos (c_7)] at hf
        exact b_X7_read_85 qM   C0 (fun zM_ x1_ x2_ x3_ => f_X7_read_56  fu zM_ x1_ x2_ x3_) ih r_6 x1 H locs ls hP hD hS (lv_sub hl [0, 1] rfl) hf
      · rw [if_neg (not_not_intro c_7)] at hf
        refine lv_aload_n hx hb dX7_read_72 rfl (lv_at hl 0 rfl) ?_
        obtain ⟨r_8, hr_8, hf⟩ := obd hf
        refine cWiV (As := []) (rest := []) (W1 := ((wMd cA qM r_8.2))) ⟨hx, hb, hml, hown, hts⟩ (m_X7_next l G cA qM r_6 r_8 hr_8) (cw_X7_next hts wi_746 ⟨Nat.le_of_ble_eq_true rfl, Nat.le_of_ble_eq_true rfl⟩) hK hP hD hS [0, 1, 2, 3, 4] [5, 6, 7, 8, 9] rfl rfl rfl (by decide) rfl va_Pnil dj_nil (va_recv hK.1 hP (ci := 5) (q0 := 0) rfl rfl) rfl hl.1 rfl (Nat.le_of_ble_eq_true rfl) dX7_read_73 ⟨Nat.zero_le _, Nat.zero_le _⟩ (fun H locs hP hD hS => ?_)
        refine lv_bipush (v := (45 : Int32)) hx hb dX7_read_76 (by decide) ?_
        refine lv_icmp_ne (tgt := 85) hx hb dX7_read_78 (by decide) (fun c_9 => ?_) (fun c_9 => ?_)
        · rw [if_pos (c_9)] at hf
          exact b_X7_read_85 qM   C0 (fun zM_ x1_ x2_ x3_ => f_X7_read_56  fu zM_ x1_ x2_ x3_) ih r_8.2 x1 H locs ls hP hD hS (lv_sub hl [0, 1] rfl) hf
        · rw [if_neg (not_not_intro c_9)] at hf
          refine lv_iconst (v := 1) hx hb dX7_read_81 (by decide) ?_
          refine lv_goto (tgt := 86) hx hb dX7_read_82 (by decide) ?_
          exact b_X7_read_86 qM   C0 (fun zM_ x1_ x2_ x3_ => f_X7_read_56  fu zM_ x1_ x2_ x3_) ih r_8.2 x1 (1 : Int32) H locs ls hP hD hS (lv_sub hl [0, 1] rfl) hf
def f_X7_read_13 (zM : MdS) (x1 : Int32) (v1 : Int32) : Option (Int32 × MdS) := (f_X7_refused zM v1).bind fun r_1 => if r_1.1 = 0 then (f_X7_empty (uM_at (uM_isFull (uM_fault (uM_wrongPlace r_1.2 (-1 : Int32)) (0 : Int32)) (0 : Int32)) (0 : Int32)) (8 : Int32)).bind fun r_3 => (f_X7_takes r_3 (45 : Int32)).bind fun r_4 => f_X7_read_56 fuel r_4.2 x1 r_4.1 (1 : Int32) else some ((0 : Int32), r_1.2)
set_option maxHeartbeats 4000000 in
set_option maxRecDepth 100000 in
theorem b_X7_read_13 {p : Program} {l : Launch} {e : Env} {s : State} {m : MethodId} {args : Array Value} {below : List Frame} {meth : Method} {c : Code} {G : va_G} {cA : Nat → ClassId} {W9 : va_W} (qM : Nat → Nat) (C0 : Amb p s m args meth c cX7_read RX7 4 (some .int) G cA (adr W9) []) {res : Int32 × MdS} : ∀ (zM : MdS) (x1 : Int32) (v1 : Int32) (H : Heap) (locs : List Loc) (ls : Array Slot), va_P G vwCl ((wMd cA qM zM)) H → va_D (adr W9) ((wMd cA qM zM)) → va_S (adr W9) s.heap H locs → lv_has ls 4 [(0, .ref (qM 0)), (1, .int x1)] → f_X7_read_13 zM x1 v1 = some res → W p l e rm_X7_read s m args below meth c H locs 0 0 (MQ below (qWi G W9 ((wMd cA qM res.2)) res.1) args s 0 0 (adr W9)) (F0 m 13 ls [.int v1, .ref (qM 0)]) := by
  obtain ⟨hx, hb, hr, hml, hown, hts, hlocks, hK, hR, hRA⟩ := id C0
  intro zM x1 v1 H locs ls hP hD hS hl hf
  unfold f_X7_read_13 at hf
  obtain ⟨r_1, hr_1, hf⟩ := obd hf
  refine cWiV (As := [.int v1]) (rest := []) (W1 := ((wMd cA qM r_1.2))) ⟨hx, hb, hml, hown, hts⟩ (m_X7_refused l G cA qM zM v1 r_1 hr_1) (cw_X7_refused hts wi_723 ⟨Nat.le_of_ble_eq_true rfl, Nat.le_of_ble_eq_true rfl⟩) hK hP hD hS [0, 1, 2, 3, 4] [5, 6, 7, 8, 9] rfl rfl rfl (by decide) rfl va_Pnil dj_nil (va_recv hK.1 hP (ci := 5) (q0 := 0) rfl rfl) rfl hl.1 rfl (Nat.le_of_ble_eq_true rfl) dX7_read_13 ⟨Nat.zero_le _, Nat.zero_le _⟩ (fun H locs hP hD hS => ?_)
  refine lv_if_eq (tgt := 21) hx hb dX7_read_16 (by decide) (fun c_2 => ?_) (fun c_2 => ?_)
  · rw [if_pos (c_2)] at hf
    refine lv_aload_n hx hb dX7_read_21 rfl (lv_at hl 0 rfl) ?_
    refine lv_iconst (v := (-1)) hx hb dX7_read_22 (by decide) ?_
    refine va_put (D := G) (ci := 5) (v := .int (-1 : Int32)) (ty := .int) (C := RX7) (T := TX7) (N := 13) hx hb hts fin_X7 tyX7 tyX7_ok nmX7 hown hK.1 hP hD hS 0 rfl rfl 5 (by decide) (hts _ wi_676) (fun _ h9 => h9) rfl (by decide +kernel) rfl rfl (Nat.le_of_ble_eq_true rfl) dX7_read_23 (fun H locs hP hD hS => ?_)
    have hP : va_P G vwCl ((wMd cA qM (uM_wrongPlace r_1.2 (-1 : Int32)))) H := hP
    have hD : va_D (adr W9) ((wMd cA qM (uM_wrongPlace r_1.2 (-1 : Int32)))) := hD
    refine lv_aload_n hx hb dX7_read_26 rfl (lv_at hl 0 rfl) ?_
    refine lv_iconst (v := 0) hx hb dX7_read_27 (by decide) ?_
    refine va_put (D := G) (ci := 5) (v := .int (0 : Int32)) (ty := .int) (C := RX7) (T := TX7) (N := 13) hx hb hts fin_X7 tyX7 tyX7_ok nmX7 hown hK.1 hP hD hS 0 rfl rfl 10 (by decide) (hts _ wi_681) (fun _ h9 => h9) rfl (by decide +kernel) rfl rfl (Nat.le_of_ble_eq_true rfl) dX7_read_28 (fun H locs hP hD hS => ?_)
    have hP : va_P G vwCl ((wMd cA qM (uM_fault (uM_wrongPlace r_1.2 (-1 : Int32)) (0 : Int32)))) H := hP
    have hD : va_D (adr W9) ((wMd cA qM (uM_fault (uM_wrongPlace r_1.2 (-1 : Int32)) (0 : Int32)))) := hD
    refine lv_aload_n hx hb dX7_read_31 rfl (lv_at hl 0 rfl) ?_
    refine lv_iconst (v := 0) hx hb dX7_read_32 (by decide) ?_
    refine va_put (D := G) (ci := 5) (v := .int (0 : Int32)) (ty := .boolean) (C := RX7) (T := TX7) (N := 13) hx hb hts fin_X7 tyX7 tyX7_ok nmX7 hown hK.1 hP hD hS 0 rfl rfl 8 (by decide) (hts _ wi_679) (fun _ h9 => h9) rfl (by decide +kernel) (by decide) (by decide) (Nat.le_of_ble_eq_true rfl) dX7_read_33 (fun H locs hP hD hS => ?_)
    have hP : va_P G vwCl ((wMd cA qM (uM_isFull (uM_fault (uM_wrongPlace r_1.2 (-1 : Int32)) (0 : Int32)) (0 : Int32)))) H := hP
    have hD : va_D (adr W9) ((wMd cA qM (uM_isFull (uM_fault (uM_wrongPlace r_1.2 (-1 : Int32)) (0 : Int32)) (0 : Int32)))) := hD
    refine lv_aload_n hx hb dX7_read_36 rfl (lv_at hl 0 rfl) ?_
    refine lv_iconst (v := 0) hx hb dX7_read_37 (by decide) ?_
    refine va_put (D := G) (ci := 5) (v := .int (0 : Int32)) (ty := .int) (C := RX7) (T := TX7) (N := 13) hx hb hts fin_X7 tyX7 tyX7_ok nmX7 hown hK.1 hP hD hS 0 rfl rfl 9 (by decide) (hts _ wi_680) (fun _ h9 => h9) rfl (by decide +kernel) rfl rfl (Nat.le_of_ble_eq_true rfl) dX7_read_38 (fun H locs hP hD hS => ?_)
    have hP : va_P G vwCl ((wMd cA qM (uM_at (uM_isFull (uM_fault (uM_wrongPlace r_1.2 (-1 : Int32)) (0 : Int32)) (0 : Int32)) (0 : Int32)))) H := hP
    have hD : va_D (adr W9) ((wMd cA qM (uM_at (uM_isFull (uM_fault (uM_wrongPlace r_1.2 (-1 : Int32)) (0 : Int32)) (0 : Int32)) (0 : Int32)))) := hD
    refine lv_aload_n hx hb dX7_read_41 rfl (lv_at hl 0 rfl) ?_
    refine lv_bipush (v := (8 : Int32)) hx hb dX7_read_42 (by decide) ?_
    obtain ⟨r_3, hr_3, hf⟩ := obd hf
    refine cWvV (As := [.int (8 : Int32)]) (rest := []) (W1 := ((wMd cA qM r_3))) ⟨hx, hb, hml, hown, hts⟩ (m_X7_empty l G cA qM (uM_at (uM_isFull (uM_fault (uM_wrongPlace r_1.2 (-1 : Int32)) (0 : Int32)) (0 : Int32)) (0 : Int32)) (8 : Int32) r_3 hr_3) (cw_X7_empty hts wi_738 ⟨Nat.le_of_ble_eq_true rfl, Nat.le_of_ble_eq_true rfl⟩) hK hP hD hS [0, 1, 2, 3, 4] [5, 6, 7, 8, 9] rfl rfl rfl (by decide) rfl va_Pnil dj_nil (va_recv hK.1 hP (ci := 5) (q0 := 0) rfl rfl) rfl hl.1 rfl (Nat.le_of_ble_eq_true rfl) dX7_read_44 ⟨Nat.zero_le _, Nat.zero_le _⟩ (fun H locs hP hD hS => ?_)
    refine lv_aload_n hx hb dX7_read_47 rfl (lv_at hl 0 rfl) ?_
    refine lv_bipush (v := (45 : Int32)) hx hb dX7_read_48 (by decide) ?_
    obtain ⟨r_4, hr_4, hf⟩ := obd hf
    refine cWiV (As := [.int (45 : Int32)]) (rest := []) (W1 := ((wMd cA qM r_4.2))) ⟨hx, hb, hml, hown, hts⟩ (m_X7_takes l G cA qM r_3 (45 : Int32) r_4 hr_4) (cw_X7_takes hts wi_742 ⟨Nat.le_of_ble_eq_true rfl, Nat.le_of_ble_eq_true rfl⟩) hK hP hD hS [0, 1, 2, 3, 4] [5, 6, 7, 8, 9] rfl rfl rfl (by decide) rfl va_Pnil dj_nil (va_recv hK.1 hP (ci := 5) (q0 := 0) rfl rfl) rfl hl.1 rfl (Nat.le_of_ble_eq_true rfl) dX7_read_50 ⟨Nat.zero_le _, Nat.zero_le _⟩ (fun H locs hP hD hS => ?_)
    refine lv_istore_n (lv' := [(2, .int r_4.1), (0, .ref (qM 0)), (1, .int x1)]) hx hb dX7_read_53 rfl hl (by decide) rfl (fun ls hl => ?_)
    refine lv_iconst (v := 1) hx hb dX7_read_54 (by decide) ?_
    refine lv_istore_n (lv' := [(3, .int (1 : Int32)), (2, .int r_4.1), (0, .ref (qM 0)), (1, .int x1)]) hx hb dX7_read_55 rfl hl (by decide) rfl (fun ls hl => ?_)
    exact b_X7_read_56 qM   C0  fuel r_4.2 x1 r_4.1 (1 : Int32) H locs ls hP hD hS (lv_sub hl [2, 3, 1, 0] rfl) hf
  · rw [if_neg (c_2)] at hf
    refine lv_iconst (v := 0) hx hb dX7_read_19 (by decide) ?_
    cases hf
    exact W.iret hx hb hr (fun t ht hW => ⟨⟨_, (), rfl, rfl, toT ht hP⟩, hS.F ht⟩) hS.2.2 dX7_read_20 hlocks
def f_X7_read (zM : MdS) (a1 : Int32) : Option (Int32 × MdS) := (f_X7_isSlot a1).bind fun r_1 => if r_1 = 0 then f_X7_read_13  zM a1 (1 : Int32) else f_X7_read_13  zM a1 (0 : Int32)
set_option maxHeartbeats 4000000 in
set_option maxRecDepth 100000 in
theorem b_X7_read_0 {p : Program} {l : Launch} {e : Env} {s : State} {m : MethodId} {args : Array Value} {below : List Frame} {meth : Method} {c : Code} {G : va_G} {cA : Nat → ClassId} {W9 : va_W} (qM : Nat → Nat) (C0 : Amb p s m args meth c cX7_read RX7 4 (some .int) G cA (adr W9) []) {res : Int32 × MdS} : ∀ (zM : MdS) (a1 : Int32) (H : Heap) (locs : List Loc) (ls : Array Slot), va_P G vwCl ((wMd cA qM zM)) H → va_D (adr W9) ((wMd cA qM zM)) → va_S (adr W9) s.heap H locs → lv_has ls 4 [(0, .ref (qM 0)), (1, .int a1)] → f_X7_read zM a1 = some res → W p l e rm_X7_read s m args below meth c H locs 0 0 (MQ below (qWi G W9 ((wMd cA qM res.2)) res.1) args s 0 0 (adr W9)) (F0 m 0 ls []) := by
  obtain ⟨hx, hb, hr, hml, hown, hts, hlocks, hK, hR, hRA⟩ := id C0
  intro zM a1 H locs ls hP hD hS hl hf
  unfold f_X7_read at hf
  refine lv_aload_n hx hb dX7_read_0 rfl (lv_at hl 0 rfl) ?_
  refine lv_iload_n hx hb dX7_read_1 rfl (lv_at hl 1 rfl) ?_
  obtain ⟨r_1, hr_1, hf⟩ := obd hf
  refine cRiS (As := [.int a1]) (rest := [.ref (qM 0)]) ⟨hx, hb, hml, hown, hts⟩ (m_X7_isSlot l G cA a1 r_1 hr_1) (cw_X7_isSlot hts wi_735 ⟨Nat.le_of_ble_eq_true rfl, Nat.le_of_ble_eq_true rfl⟩) hK va_Pnil rfl hl.1 rfl (Nat.le_of_ble_eq_true rfl) dX7_read_2 ⟨Nat.zero_le _, Nat.zero_le _⟩ ?_
  refine lv_if_eq (tgt := 12) hx hb dX7_read_5 (by decide) (fun c_2 => ?_) (fun c_2 => ?_)
  · rw [if_pos (c_2)] at hf
    refine lv_iconst (v := 1) hx hb dX7_read_12 (by decide) ?_
    exact b_X7_read_13 qM   C0  zM a1 (1 : Int32) H locs ls hP hD hS (lv_sub hl [0, 1] rfl) hf
  · rw [if_neg (c_2)] at hf
    refine lv_iconst (v := 0) hx hb dX7_read_8 (by decide) ?_
    refine lv_goto (tgt := 13) hx hb dX7_read_9 (by decide) ?_
    exact b_X7_read_13 qM   C0  zM a1 (0 : Int32) H locs ls hP hD hS (lv_sub hl [0, 1] rfl) hf

set_option maxRecDepth 100000 in
theorem m_X7_read (l : Launch) (G : va_G) (cA : Nat → ClassId) (qM : Nat → Nat) (zM : MdS) (a1 : Int32) (res : Int32 × MdS) (hf : f_X7_read zM a1 = some res) : MWi l yX7_read (.code yX7_read cX7_read 4 (some .int) :: wd) rm_X7_read G cA [.ref (qM 0), .int a1] ((wMd cA qM zM)) [] ((wMd cA qM res.2)) res.1 := by
  refine Met.ofW (cc := cX7_read) (maxL := 4) (ret := (some .int)) (by decide) rfl ?_
  intro p e s m args below meth c s₁ B hml hv
  obtain ⟨rfl, hK, hP, hD0, hR, hRA⟩ := hv
  have C0 : Amb p s m ([.ref (qM 0), .int a1] : List Value).toArray meth c cX7_read RX7 4 (some .int) G cA (adr ((wMd cA qM zM))) [] := ⟨B.exec, B.bytes, B.returns, hml, findClass_of_methodNamed B.named, fun w h => atoms_spec (ws := (.code yX7_read cX7_read 4 (some .int) :: wd)) B.pre w (List.mem_cons_of_mem _ h), B.notSynchronized, hK, hR, hRA⟩
  have hl := lv_entry ([.ref (qM 0), .int a1]) (n := 4) (Nat.le_of_ble_eq_true rfl)
  rw [lg_entry_eq]
  generalize (lg_sl ([.ref (qM 0), .int a1]) ++ List.replicate (4 - (lg_sl ([.ref (qM 0), .int a1])).length) Slot.unset).toArray = ls at hl ⊢
  have hl : lv_has ls 4 [(0, .ref (qM 0)), (1, .int a1)] := hl
  exact b_X7_read_0 (W9 := ((wMd cA qM zM))) qM   C0 zM a1 s.heap [] ls hP (adr.self hD0) va_S.rf hl hf
theorem cw_X7_read {R : Room} {s : State} {args : Array Value} {own : String} {index : Nat} (ht : ∀ w ∈ wd, w.before args s = true) (hlink : Cond.methodLink own index yX7_read ∈ wd) (hR : rm_X7_read.frames + 1 ≤ R.frames ∧ 8 + (4 + 11) + rm_X7_read.locals ≤ R.locals) : CallW R s args own RX7 index yX7_read cX7_read 4 (some .int) (.code yX7_read cX7_read 4 (some .int) :: wd) rm_X7_read 0 0 1 := cwV9 1 ht wi_734 wi_732 wi_733 wi_60 hlink (by decide +kernel) rfl rfl hR
def rm_X7_place : Room := { frames := 0, cells := 0, slots := 0, locals := 0 }
def f_X7_place (zM : MdS) : Option (Int32 × MdS) := some ((gM_wrongPlace (uM_refusal zM (0 : Int32))), (uM_refusal zM (0 : Int32)))
set_option maxHeartbeats 4000000 in
set_option maxRecDepth 100000 in
theorem b_X7_place_0 {p : Program} {l : Launch} {e : Env} {s : State} {m : MethodId} {args : Array Value} {below : List Frame} {meth : Method} {c : Code} {G : va_G} {cA : Nat → ClassId} {W9 : va_W} (qM : Nat → Nat) (C0 : Amb p s m args meth c cX7_place RX7 1 (some .int) G cA (adr W9) []) {res : Int32 × MdS} : ∀ (zM : MdS) (H : Heap) (locs : List Loc) (ls : Array Slot), va_P G vwCl ((wMd cA qM zM)) H → va_D (adr W9) ((wMd cA qM zM)) → va_S (adr W9) s.heap H locs → lv_has ls 1 [(0, .ref (qM 0))] → f_X7_place zM = some res → W p l e rm_X7_place s m args below meth c H locs 0 0 (MQ below (qWi G W9 ((wMd cA qM res.2)) res.1) args s 0 0 (adr W9)) (F0 m 0 ls []) := by
  obtain ⟨hx, hb, hr, hml, hown, hts, hlocks, hK, hR, hRA⟩ := id C0
  intro zM H locs ls hP hD hS hl hf
  unfold f_X7_place at hf
  refine lv_aload_n hx hb dX7_place_0 rfl (lv_at hl 0 rfl) ?_
  refine lv_iconst (v := 0) hx hb dX7_place_1 (by decide) ?_
  refine va_put (D := G) (ci := 5) (v := .int (0 : Int32)) (ty := .int) (C := RX7) (T := TX7) (N := 13) hx hb hts fin_X7 tyX7 tyX7_ok nmX7 hown hK.1 hP hD hS 0 rfl rfl 0 (by decide) (hts _ wi_671) (fun _ h9 => h9) rfl (by decide +kernel) rfl rfl (Nat.le_of_ble_eq_true rfl) dX7_place_2 (fun H locs hP hD hS => ?_)
  have hP : va_P G vwCl ((wMd cA qM (uM_refusal zM (0 : Int32)))) H := hP
  have hD : va_D (adr W9) ((wMd cA qM (uM_refusal zM (0 : Int32)))) := hD
  refine lv_aload_n hx hb dX7_place_5 rfl (lv_at hl 0 rfl) ?_
  refine va_get (D := G) (ci := 5) (v := .int (gM_wrongPlace (uM_refusal zM (0 : Int32)))) (C := RX7) (T := TX7) (N := 13) hx hb hts fin_X7 hown hK.1 hP 0 rfl rfl 5 (by decide) (hts _ wi_676) (fun _ h9 => h9) rfl dX7_place_6 ?_
  cases hf
  exact W.iret hx hb hr (fun t ht hW => ⟨⟨_, (), rfl, rfl, toT ht hP⟩, hS.F ht⟩) hS.2.2 dX7_place_9 hlocks

set_option maxRecDepth 100000 in
theorem m_X7_place (l : Launch) (G : va_G) (cA : Nat → ClassId) (qM : Nat → Nat) (zM : MdS) (res : Int32 × MdS) (hf : f_X7_place zM = some res) : MWi l yX7_place (.code yX7_place cX7_place 1 (some .int) :: wd) rm_X7_place G cA [.ref (qM 0)] ((wMd cA qM zM)) [] ((wMd cA qM res.2)) res.1 := by
  refine Met.ofW (cc := cX7_place) (maxL := 1) (ret := (some .int)) (by decide) rfl ?_
  intro p e s m args below meth c s₁ B hml hv
  obtain ⟨rfl, hK, hP, hD0, hR, hRA⟩ := hv
  have C0 : Amb p s m ([.ref (qM 0)] : List Value).toArray meth c cX7_place RX7 1 (some .int) G cA (adr ((wMd cA qM zM))) [] := ⟨B.exec, B.bytes, B.returns, hml, findClass_of_methodNamed B.named, fun w h => atoms_spec (ws := (.code yX7_place cX7_place 1 (some .int) :: wd)) B.pre w (List.mem_cons_of_mem _ h), B.notSynchronized, hK, hR, hRA⟩
  have hl := lv_entry ([.ref (qM 0)]) (n := 1) (Nat.le_of_ble_eq_true rfl)
  rw [lg_entry_eq]
  generalize (lg_sl ([.ref (qM 0)]) ++ List.replicate (1 - (lg_sl ([.ref (qM 0)])).length) Slot.unset).toArray = ls at hl ⊢
  have hl : lv_has ls 1 [(0, .ref (qM 0))] := hl
  exact b_X7_place_0 (W9 := ((wMd cA qM zM))) qM   C0 zM s.heap [] ls hP (adr.self hD0) va_S.rf hl hf
theorem cw_X7_place {R : Room} {s : State} {args : Array Value} {own : String} {index : Nat} (ht : ∀ w ∈ wd, w.before args s = true) (hlink : Cond.methodLink own index yX7_place ∈ wd) (hR : rm_X7_place.frames + 1 ≤ R.frames ∧ 8 + (1 + 11) + rm_X7_place.locals ≤ R.locals) : CallW R s args own RX7 index yX7_place cX7_place 1 (some .int) (.code yX7_place cX7_place 1 (some .int) :: wd) rm_X7_place 0 0 0 := cwV9 0 ht wi_809 wi_807 wi_808 wi_60 hlink (by decide +kernel) rfl rfl hR
def rm_X7_put : Room := { frames := 0, cells := 0, slots := 0, locals := 0 }
def f_X7_put (zM : MdS) (a1 : Int32) : Option (MdS) := if inb (gM_outSize zM) 1400 = true then some (uM_outSize (uM_out zM (upd (gM_out zM) (gM_outSize zM).toNatClampNeg (vp_nar .char a1))) ((gM_outSize (uM_out zM (upd (gM_out zM) (gM_outSize zM).toNatClampNeg (vp_nar .char a1)))) + (1 : Int32))) else none
set_option maxHeartbeats 4000000 in
set_option maxRecDepth 100000 in
theorem b_X7_put_0 {p : Program} {l : Launch} {e : Env} {s : State} {m : MethodId} {args : Array Value} {below : List Frame} {meth : Method} {c : Code} {G : va_G} {cA : Nat → ClassId} {W9 : va_W} (qM : Nat → Nat) (C0 : Amb p s m args meth c cX7_put RX7 2 none G cA (adr W9) []) {res : MdS} : ∀ (zM : MdS) (a1 : Int32) (H : Heap) (locs : List Loc) (ls : Array Slot), va_P G vwCl ((wMd cA qM zM)) H → va_D (adr W9) ((wMd cA qM zM)) → va_S (adr W9) s.heap H locs → lv_has ls 2 [(0, .ref (qM 0)), (1, .int a1)] → f_X7_put zM a1 = some res → W p l e rm_X7_put s m args below meth c H locs 0 0 (MQ below (qWv G W9 ((wMd cA qM res))) args s 0 0 (adr W9)) (F0 m 0 ls []) := by
  obtain ⟨hx, hb, hr, hml, hown, hts, hlocks, hK, hR, hRA⟩ := id C0
  intro zM a1 H locs ls hP hD hS hl hf
  unfold f_X7_put at hf
  refine lv_aload_n hx hb dX7_put_0 rfl (lv_at hl 0 rfl) ?_
  refine va_get (D := G) (ci := 5) (v := .ref (qM 2)) (C := RX7) (T := TX7) (N := 13) hx hb hts fin_X7 hown hK.1 hP 0 rfl rfl 3 (by decide) (hts _ wi_674) (fun _ h9 => h9) rfl dX7_put_1 ?_
  refine lv_aload_n hx hb dX7_put_4 rfl (lv_at hl 0 rfl) ?_
  refine va_get (D := G) (ci := 5) (v := .int (gM_outSize zM)) (C := RX7) (T := TX7) (N := 13) hx hb hts fin_X7 hown hK.1 hP 0 rfl rfl 4 (by decide) (hts _ wi_675) (fun _ h9 => h9) rfl dX7_put_5 ?_
  refine lv_iload_n hx hb dX7_put_8 rfl (lv_at hl 1 rfl) ?_
  obtain ⟨hi_1, hf⟩ := oif hf
  refine va_cast hx hb hK.1 hP hD hS 2 2 rfl rfl (inb_in hi_1) dX7_put_9 (fun H locs hP hD hS => ?_)
  have hP : va_P G vwCl ((wMd cA qM (uM_out zM (upd (gM_out zM) (gM_outSize zM).toNatClampNeg (vp_nar .char a1))))) H := hP
  have hD : va_D (adr W9) ((wMd cA qM (uM_out zM (upd (gM_out zM) (gM_outSize zM).toNatClampNeg (vp_nar .char a1))))) := hD
  refine lv_aload_n hx hb dX7_put_10 rfl (lv_at hl 0 rfl) ?_
  refine lv_dup hx hb dX7_put_11 rfl ?_
  refine va_get (D := G) (ci := 5) (v := .int (gM_outSize (uM_out zM (upd (gM_out zM) (gM_outSize zM).toNatClampNeg (vp_nar .char a1))))) (C := RX7) (T := TX7) (N := 13) hx hb hts fin_X7 hown hK.1 hP 0 rfl rfl 4 (by decide) (hts _ wi_675) (fun _ h9 => h9) rfl dX7_put_12 ?_
  refine lv_iconst (v := 1) hx hb dX7_put_15 (by decide) ?_
  refine lv_iadd hx hb dX7_put_16 ?_
  refine va_put (D := G) (ci := 5) (v := .int ((gM_outSize (uM_out zM (upd (gM_out zM) (gM_outSize zM).toNatClampNeg (vp_nar .char a1)))) + (1 : Int32))) (ty := .int) (C := RX7) (T := TX7) (N := 13) hx hb hts fin_X7 tyX7 tyX7_ok nmX7 hown hK.1 hP hD hS 0 rfl rfl 4 (by decide) (hts _ wi_675) (fun _ h9 => h9) rfl (by decide +kernel) rfl rfl (Nat.le_of_ble_eq_true rfl) dX7_put_17 (fun H locs hP hD hS => ?_)
  have hP : va_P G vwCl ((wMd cA qM (uM_outSize (uM_out zM (upd (gM_out zM) (gM_outSize zM).toNatClampNeg (vp_nar .char a1))) ((gM_outSize (uM_out zM (upd (gM_out zM) (gM_outSize zM).toNatClampNeg (vp_nar .char a1)))) + (1 : Int32))))) H := hP
  have hD : va_D (adr W9) ((wMd cA qM (uM_outSize (uM_out zM (upd (gM_out zM) (gM_outSize zM).toNatClampNeg (vp_nar .char a1))) ((gM_outSize (uM_out zM (upd (gM_out zM) (gM_outSize zM).toNatClampNeg (vp_nar .char a1)))) + (1 : Int32))))) := hD
  cases hf
  exact W.vret hx hb hr (fun t ht hW => ⟨⟨(), rfl, trivial, toT ht hP⟩, hS.F ht⟩) hS.2.2 dX7_put_20 hlocks

set_option maxRecDepth 100000 in
theorem m_X7_put (l : Launch) (G : va_G) (cA : Nat → ClassId) (qM : Nat → Nat) (zM : MdS) (a1 : Int32) (res : MdS) (hf : f_X7_put zM a1 = some res) : MWv l yX7_put (.code yX7_put cX7_put 2 none :: wd) rm_X7_put G cA [.ref (qM 0), .int a1] ((wMd cA qM zM)) [] ((wMd cA qM res)) := by
  refine Met.ofW (cc := cX7_put) (maxL := 2) (ret := none) (by decide) rfl ?_
  intro p e s m args below meth c s₁ B hml hv
  obtain ⟨rfl, hK, hP, hD0, hR, hRA⟩ := hv
  have C0 : Amb p s m ([.ref (qM 0), .int a1] : List Value).toArray meth c cX7_put RX7 2 none G cA (adr ((wMd cA qM zM))) [] := ⟨B.exec, B.bytes, B.returns, hml, findClass_of_methodNamed B.named, fun w h => atoms_spec (ws := (.code yX7_put cX7_put 2 none :: wd)) B.pre w (List.mem_cons_of_mem _ h), B.notSynchronized, hK, hR, hRA⟩
  have hl := lv_entry ([.ref (qM 0), .int a1]) (n := 2) (Nat.le_of_ble_eq_true rfl)
  rw [lg_entry_eq]
  generalize (lg_sl ([.ref (qM 0), .int a1]) ++ List.replicate (2 - (lg_sl ([.ref (qM 0), .int a1])).length) Slot.unset).toArray = ls at hl ⊢
  have hl : lv_has ls 2 [(0, .ref (qM 0)), (1, .int a1)] := hl
  exact b_X7_put_0 (W9 := ((wMd cA qM zM))) qM   C0 zM a1 s.heap [] ls hP (adr.self hD0) va_S.rf hl hf
theorem cw_X7_put {R : Room} {s : State} {args : Array Value} {own : String} {index : Nat} (ht : ∀ w ∈ wd, w.before args s = true) (hlink : Cond.methodLink own index yX7_put ∈ wd) (hR : rm_X7_put.frames + 1 ≤ R.frames ∧ 8 + (2 + 11) + rm_X7_put.locals ≤ R.locals) : CallW R s args own RX7 index yX7_put cX7_put 2 none (.code yX7_put cX7_put 2 none :: wd) rm_X7_put 0 0 1 := cwV9 1 ht wi_821 wi_820 wi_45 wi_60 hlink (by decide +kernel) rfl rfl hR
def rm_X7_putNumber : Room := { frames := 1, cells := 0, slots := 0, locals := 21 }
def f_X7_putNumber_24  : Nat → MdS → Int64 → Int64 → Option (MdS)
  | 0, _, _, _ => none
  | fu + 1, zM, x1, x5 => if x5 ≤ (0 : Int64) then some zM else if ¬ x5 = 0 then (f_X7_put zM ((((((48 : Int64) + ((x1 / x5) - (x1 / x5) / (10 : Int64) * (10 : Int64)))).toInt32).toUInt32 % 65536).toInt32)).bind fun r_3 => (some ((x5 / (10 : Int64)))).bind fun y_4 => f_X7_putNumber_24  fu r_3 x1 y_4 else none
set_option maxHeartbeats 4000000 in
set_option maxRecDepth 100000 in
theorem b_X7_putNumber_24 {p : Program} {l : Launch} {e : Env} {s : State} {m : MethodId} {args : Array Value} {below : List Frame} {meth : Method} {c : Code} {G : va_G} {cA : Nat → ClassId} {W9 : va_W} (qM : Nat → Nat) (C0 : Amb p s m args meth c cX7_putNumber RX7 7 none G cA (adr W9) []) {res : MdS} : ∀ (fu : Nat) (zM : MdS) (x1 : Int64) (x5 : Int64) (H : Heap) (locs : List Loc) (ls : Array Slot), va_P G vwCl ((wMd cA qM zM)) H → va_D (adr W9) ((wMd cA qM zM)) → va_S (adr W9) s.heap H locs → lv_has ls 7 [(0, .ref (qM 0)), (1, .long x1), (5, .long x5)] → f_X7_putNumber_24 fu zM x1 x5 = some res → W p l e rm_X7_putNumber s m args below meth c H locs 0 0 (MQ below (qWv G W9 ((wMd cA qM res))) args s 0 0 (adr W9)) (F0 m 24 ls []) := by
  obtain ⟨hx, hb, hr, hml, hown, hts, hlocks, hK, hR, hRA⟩ := id C0
  intro fu
  induction fu with
  | zero =>
    intro zM x1 x5 H locs ls hP hD hS hl hf
    rw [f_X7_putNumber_24] at hf
    cases hf
  | succ fu ih =>
    intro zM x1 x5 H locs ls hP hD hS hl hf
    rw [f_X7_putNumber_24] at hf
    refine lv_lload hx hb dX7_putNumber_24 (lv_at hl 2 rfl) ?_
    refine lv_lconst (v := (0 : Int64)) hx hb dX7_putNumber_26 (by decide) ?_
    refine W.lcmp hx hb dX7_putNumber_27 ?_
    refine lv_if_le (tgt := 60) hx hb dX7_putNumber_28 (by decide) (fun c_1 => ?_) (fun c_1 => ?_)
    · rw [if_pos ((lg_cmp_le _ _).mp c_1)] at hf
      cases hf
      exact W.vret hx hb hr (fun t ht hW => ⟨⟨(), rfl, trivial, toT ht hP⟩, hS.F ht⟩) hS.2.2 dX7_putNumber_60 hlocks
    · rw [if_neg (fun h => c_1 ((lg_cmp_le _ _).mpr h))] at hf
      refine lv_aload_n hx hb dX7_putNumber_31 rfl (lv_at hl 0 rfl) ?_
      refine lv_ldc2 (v := (48 : Int64)) hx hb hown (hts _ wi_828) dX7_putNumber_32 ?_
      refine lv_lload_n hx hb dX7_putNumber_35 rfl (lv_at hl 1 rfl) ?_
      refine lv_lload hx hb dX7_putNumber_36 (lv_at hl 2 rfl) ?_
      obtain ⟨hn_2, hf⟩ := oif hf
      refine lv_ldiv hx hb dX7_putNumber_38 hn_2 ?_
      refine lv_ldc2 (v := (10 : Int64)) hx hb hown (hts _ wi_827) dX7_putNumber_39 ?_
      refine lv_lrem hx hb dX7_putNumber_42 (by decide) ?_
      refine lv_ladd hx hb dX7_putNumber_43 ?_
      refine lv_l2i hx hb dX7_putNumber_44 rfl ?_
      refine lv_i2c hx hb dX7_putNumber_45 rfl ?_
      obtain ⟨r_3, hr_3, hf⟩ := obd hf
      refine cWvV (As := [.int ((((((48 : Int64) + ((x1 / x5) - (x1 / x5) / (10 : Int64) * (10 : Int64)))).toInt32).toUInt32 % 65536).toInt32)]) (rest := []) (W1 := ((wMd cA qM r_3))) ⟨hx, hb, hml, hown, hts⟩ (m_X7_put l G cA qM zM ((((((48 : Int64) + ((x1 / x5) - (x1 / x5) / (10 : Int64) * (10 : Int64)))).toInt32).toUInt32 % 65536).toInt32) r_3 hr_3) (cw_X7_put hts wi_818 ⟨Nat.le_of_ble_eq_true rfl, Nat.le_of_ble_eq_true rfl⟩) hK hP hD hS [0, 1, 2, 3, 4] [5, 6, 7, 8, 9] rfl rfl rfl (by decide) rfl va_Pnil dj_nil (va_recv hK.1 hP (ci := 5) (q0 := 0) rfl rfl) rfl hl.1 rfl (Nat.le_of_ble_eq_true rfl) dX7_putNumber_46 ⟨Nat.zero_le _, Nat.zero_le _⟩ (fun H locs hP hD hS => ?_)
      refine lv_lload hx hb dX7_putNumber_49 (lv_at hl 2 rfl) ?_
      refine lv_ldc2 (v := (10 : Int64)) hx hb hown (hts _ wi_827) dX7_putNumber_51 ?_
      refine lv_ldiv hx hb dX7_putNumber_54 (by decide) ?_
      obtain ⟨y_4, hq, hf⟩ := obd hf
      have hy_4 : (x5 / (10 : Int64)) = y_4 := Option.some.inj hq
      rw [hy_4]
      refine lv_lstore (lv' := [(5, .long y_4), (0, .ref (qM 0)), (1, .long x1)]) hx hb dX7_putNumber_55 hl (by decide) rfl (fun ls hl => ?_)
      refine lv_goto (tgt := 24) hx hb dX7_putNumber_57 (by decide) ?_
      exact ih r_3 x1 y_4 H locs ls hP hD hS (lv_sub hl [1, 2, 0] rfl) hf
def f_X7_putNumber_2  : Nat → MdS → Int64 → Int64 → Option (MdS)
  | 0, _, _, _ => none
  | fu + 1, zM, x1, x3 => if ¬ x3 = 0 then if (x1 / x3) ≤ (9 : Int64) then f_X7_putNumber_24 fuel zM x1 x3 else (some ((x3 * (10 : Int64)))).bind fun y_3 => f_X7_putNumber_2  fu zM x1 y_3 else none
set_option maxHeartbeats 4000000 in
set_option maxRecDepth 100000 in
theorem b_X7_putNumber_2 {p : Program} {l : Launch} {e : Env} {s : State} {m : MethodId} {args : Array Value} {below : List Frame} {meth : Method} {c : Code} {G : va_G} {cA : Nat → ClassId} {W9 : va_W} (qM : Nat → Nat) (C0 : Amb p s m args meth c cX7_putNumber RX7 7 none G cA (adr W9) []) {res : MdS} : ∀ (fu : Nat) (zM : MdS) (x1 : Int64) (x3 : Int64) (H : Heap) (locs : List Loc) (ls : Array Slot), va_P G vwCl ((wMd cA qM zM)) H → va_D (adr W9) ((wMd cA qM zM)) → va_S (adr W9) s.heap H locs → lv_has ls 7 [(0, .ref (qM 0)), (1, .long x1), (3, .long x3)] → f_X7_putNumber_2 fu zM x1 x3 = some res → W p l e rm_X7_putNumber s m args below meth c H locs 0 0 (MQ below (qWv G W9 ((wMd cA qM res))) args s 0 0 (adr W9)) (F0 m 2 ls []) := by
  obtain ⟨hx, hb, hr, hml, hown, hts, hlocks, hK, hR, hRA⟩ := id C0
  intro fu
  induction fu with
  | zero =>
    intro zM x1 x3 H locs ls hP hD hS hl hf
    rw [f_X7_putNumber_2] at hf
    cases hf
  | succ fu ih =>
    intro zM x1 x3 H locs ls hP hD hS hl hf
    rw [f_X7_putNumber_2] at hf
    refine lv_lload_n hx hb dX7_putNumber_2 rfl (lv_at hl 1 rfl) ?_
    refine lv_lload_n hx hb dX7_putNumber_3 rfl (lv_at hl 2 rfl) ?_
    obtain ⟨hn_1, hf⟩ := oif hf
    refine lv_ldiv hx hb dX7_putNumber_4 hn_1 ?_
    refine lv_ldc2 (v := (9 : Int64)) hx hb hown (hts _ wi_826) dX7_putNumber_5 ?_
    refine W.lcmp hx hb dX7_putNumber_8 ?_
    refine lv_if_le (tgt := 21) hx hb dX7_putNumber_9 (by decide) (fun c_2 => ?_) (fun c_2 => ?_)
    · rw [if_pos ((lg_cmp_le _ _).mp c_2)] at hf
      refine lv_lload_n hx hb dX7_putNumber_21 rfl (lv_at hl 2 rfl) ?_
      refine lv_lstore (lv' := [(5, .long x3), (0, .ref (qM 0)), (1, .long x1), (3, .long x3)]) hx hb dX7_putNumber_22 hl (by decide) rfl (fun ls hl => ?_)
      exact b_X7_putNumber_24 qM   C0  fuel zM x1 x3 H locs ls hP hD hS (lv_sub hl [1, 2, 0] rfl) hf
    · rw [if_neg (fun h => c_2 ((lg_cmp_le _ _).mpr h))] at hf
      refine lv_lload_n hx hb dX7_putNumber_12 rfl (lv_at hl 2 rfl) ?_
      refine lv_ldc2 (v := (10 : Int64)) hx hb hown (hts _ wi_827) dX7_putNumber_13 ?_
      refine lv_lmul hx hb dX7_putNumber_16 ?_
      obtain ⟨y_3, hq, hf⟩ := obd hf
      have hy_3 : (x3 * (10 : Int64)) = y_3 := Option.some.inj hq
      rw [hy_3]
      refine lv_lstore_n (lv' := [(3, .long y_3), (0, .ref (qM 0)), (1, .long x1)]) hx hb dX7_putNumber_17 rfl hl (by decide) rfl (fun ls hl => ?_)
      refine lv_goto (tgt := 2) hx hb dX7_putNumber_18 (by decide) ?_
      exact ih zM x1 y_3 H locs ls hP hD hS (lv_sub hl [1, 2, 0] rfl) hf
def f_X7_putNumber (zM : MdS) (a1 : Int64) : Option (MdS) := f_X7_putNumber_2 fuel zM a1 (1 : Int64)
set_option maxHeartbeats 4000000 in
set_option maxRecDepth 100000 in
theorem b_X7_putNumber_0 {p : Program} {l : Launch} {e : Env} {s : State} {m : MethodId} {args : Array Value} {below : List Frame} {meth : Method} {c : Code} {G : va_G} {cA : Nat → ClassId} {W9 : va_W} (qM : Nat → Nat) (C0 : Amb p s m args meth c cX7_putNumber RX7 7 none G cA (adr W9) []) {res : MdS} : ∀ (zM : MdS) (a1 : Int64) (H : Heap) (locs : List Loc) (ls : Array Slot), va_P G vwCl ((wMd cA qM zM)) H → va_D (adr W9) ((wMd cA qM zM)) → va_S (adr W9) s.heap H locs → lv_has ls 7 [(0, .ref (qM 0)), (1, .long a1)] → f_X7_putNumber zM a1 = some res → W p l e rm_X7_putNumber s m args below meth c H locs 0 0 (MQ below (qWv G W9 ((wMd cA qM res))) args s 0 0 (adr W9)) (F0 m 0 ls []) := by
  obtain ⟨hx, hb, hr, hml, hown, hts, hlocks, hK, hR, hRA⟩ := id C0
  intro zM a1 H locs ls hP hD hS hl hf
  unfold f_X7_putNumber at hf
  refine lv_lconst (v := (1 : Int64)) hx hb dX7_putNumber_0 (by decide) ?_
  refine lv_lstore_n (lv' := [(3, .long (1 : Int64)), (0, .ref (qM 0)), (1, .long a1)]) hx hb dX7_putNumber_1 rfl hl (by decide) rfl (fun ls hl => ?_)
  exact b_X7_putNumber_2 qM   C0  fuel zM a1 (1 : Int64) H locs ls hP hD hS (lv_sub hl [1, 2, 0] rfl) hf

set_option maxRecDepth 100000 in
theorem m_X7_putNumber (l : Launch) (G : va_G) (cA : Nat → ClassId) (qM : Nat → Nat) (zM : MdS) (a1 : Int64) (res : MdS) (hf : f_X7_putNumber zM a1 = some res) : MWv l yX7_putNumber (.code yX7_putNumber cX7_putNumber 7 none :: wd) rm_X7_putNumber G cA [.ref (qM 0), .long a1] ((wMd cA qM zM)) [] ((wMd cA qM res)) := by
  refine Met.ofW (cc := cX7_putNumber) (maxL := 7) (ret := none) (by decide) rfl ?_
  intro p e s m args below meth c s₁ B hml hv
  obtain ⟨rfl, hK, hP, hD0, hR, hRA⟩ := hv
  have C0 : Amb p s m ([.ref (qM 0), .long a1] : List Value).toArray meth c cX7_putNumber RX7 7 none G cA (adr ((wMd cA qM zM))) [] := ⟨B.exec, B.bytes, B.returns, hml, findClass_of_methodNamed B.named, fun w h => atoms_spec (ws := (.code yX7_putNumber cX7_putNumber 7 none :: wd)) B.pre w (List.mem_cons_of_mem _ h), B.notSynchronized, hK, hR, hRA⟩
  have hl := lv_entry ([.ref (qM 0), .long a1]) (n := 7) (Nat.le_of_ble_eq_true rfl)
  rw [lg_entry_eq]
  generalize (lg_sl ([.ref (qM 0), .long a1]) ++ List.replicate (7 - (lg_sl ([.ref (qM 0), .long a1])).length) Slot.unset).toArray = ls at hl ⊢
  have hl : lv_has ls 7 [(0, .ref (qM 0)), (1, .long a1)] := hl
  exact b_X7_putNumber_0 (W9 := ((wMd cA qM zM))) qM   C0 zM a1 s.heap [] ls hP (adr.self hD0) va_S.rf hl hf
theorem cw_X7_putNumber {R : Room} {s : State} {args : Array Value} {own : String} {index : Nat} (ht : ∀ w ∈ wd, w.before args s = true) (hlink : Cond.methodLink own index yX7_putNumber ∈ wd) (hR : rm_X7_putNumber.frames + 1 ≤ R.frames ∧ 8 + (7 + 11) + rm_X7_putNumber.locals ≤ R.locals) : CallW R s args own RX7 index yX7_putNumber cX7_putNumber 7 none (.code yX7_putNumber cX7_putNumber 7 none :: wd) rm_X7_putNumber 0 0 1 := cwV9 1 ht wi_825 wi_824 wi_46 wi_60 hlink (by decide +kernel) rfl rfl hR
def rm_X7_putFunction : Room := { frames := 2, cells := 0, slots := 0, locals := 47 }
def f_X7_putFunction_110 (zM : MdS) : Option (MdS) := (f_X7_put zM (120 : Int32)).bind fun r_1 => (f_X7_put r_1 (41 : Int32)).bind fun r_2 => some r_2
set_option maxHeartbeats 4000000 in
set_option maxRecDepth 100000 in
theorem b_X7_putFunction_110 {p : Program} {l : Launch} {e : Env} {s : State} {m : MethodId} {args : Array Value} {below : List Frame} {meth : Method} {c : Code} {G : va_G} {cA : Nat → ClassId} {W9 : va_W} (qM : Nat → Nat) (C0 : Amb p s m args meth c cX7_putFunction RX7 5 none G cA (adr W9) []) {res : MdS} : ∀ (zM : MdS) (H : Heap) (locs : List Loc) (ls : Array Slot), va_P G vwCl ((wMd cA qM zM)) H → va_D (adr W9) ((wMd cA qM zM)) → va_S (adr W9) s.heap H locs → lv_has ls 5 [(0, .ref (qM 0))] → f_X7_putFunction_110 zM = some res → W p l e rm_X7_putFunction s m args below meth c H locs 0 0 (MQ below (qWv G W9 ((wMd cA qM res))) args s 0 0 (adr W9)) (F0 m 110 ls []) := by
  obtain ⟨hx, hb, hr, hml, hown, hts, hlocks, hK, hR, hRA⟩ := id C0
  intro zM H locs ls hP hD hS hl hf
  unfold f_X7_putFunction_110 at hf
  refine lv_aload_n hx hb dX7_putFunction_110 rfl (lv_at hl 0 rfl) ?_
  refine lv_bipush (v := (120 : Int32)) hx hb dX7_putFunction_111 (by decide) ?_
  obtain ⟨r_1, hr_1, hf⟩ := obd hf
  refine cWvV (As := [.int (120 : Int32)]) (rest := []) (W1 := ((wMd cA qM r_1))) ⟨hx, hb, hml, hown, hts⟩ (m_X7_put l G cA qM zM (120 : Int32) r_1 hr_1) (cw_X7_put hts wi_818 ⟨Nat.le_of_ble_eq_true rfl, Nat.le_of_ble_eq_true rfl⟩) hK hP hD hS [0, 1, 2, 3, 4] [5, 6, 7, 8, 9] rfl rfl rfl (by decide) rfl va_Pnil dj_nil (va_recv hK.1 hP (ci := 5) (q0 := 0) rfl rfl) rfl hl.1 rfl (Nat.le_of_ble_eq_true rfl) dX7_putFunction_113 ⟨Nat.zero_le _, Nat.zero_le _⟩ (fun H locs hP hD hS => ?_)
  refine lv_aload_n hx hb dX7_putFunction_116 rfl (lv_at hl 0 rfl) ?_
  refine lv_bipush (v := (41 : Int32)) hx hb dX7_putFunction_117 (by decide) ?_
  obtain ⟨r_2, hr_2, hf⟩ := obd hf
  refine cWvV (As := [.int (41 : Int32)]) (rest := []) (W1 := ((wMd cA qM r_2))) ⟨hx, hb, hml, hown, hts⟩ (m_X7_put l G cA qM r_1 (41 : Int32) r_2 hr_2) (cw_X7_put hts wi_818 ⟨Nat.le_of_ble_eq_true rfl, Nat.le_of_ble_eq_true rfl⟩) hK hP hD hS [0, 1, 2, 3, 4] [5, 6, 7, 8, 9] rfl rfl rfl (by decide) rfl va_Pnil dj_nil (va_recv hK.1 hP (ci := 5) (q0 := 0) rfl rfl) rfl hl.1 rfl (Nat.le_of_ble_eq_true rfl) dX7_putFunction_119 ⟨Nat.zero_le _, Nat.zero_le _⟩ (fun H locs hP hD hS => ?_)
  cases hf
  exact W.vret hx hb hr (fun t ht hW => ⟨⟨(), rfl, trivial, toT ht hP⟩, hS.F ht⟩) hS.2.2 dX7_putFunction_122 hlocks
def f_X7_putFunction_95 (zM : MdS) (v0 : Int32) : Option (MdS) := if v0 ≤ (1 : Int32) then f_X7_putFunction_110  zM else (f_X7_putNumber zM v0.toInt64).bind fun r_2 => f_X7_putFunction_110  r_2
set_option maxHeartbeats 4000000 in
set_option maxRecDepth 100000 in
theorem b_X7_putFunction_95 {p : Program} {l : Launch} {e : Env} {s : State} {m : MethodId} {args : Array Value} {below : List Frame} {meth : Method} {c : Code} {G : va_G} {cA : Nat → ClassId} {W9 : va_W} (qM : Nat → Nat) (C0 : Amb p s m args meth c cX7_putFunction RX7 5 none G cA (adr W9) []) {res : MdS} : ∀ (zM : MdS) (v0 : Int32) (H : Heap) (locs : List Loc) (ls : Array Slot), va_P G vwCl ((wMd cA qM zM)) H → va_D (adr W9) ((wMd cA qM zM)) → va_S (adr W9) s.heap H locs → lv_has ls 5 [(0, .ref (qM 0))] → f_X7_putFunction_95 zM v0 = some res → W p l e rm_X7_putFunction s m args below meth c H locs 0 0 (MQ below (qWv G W9 ((wMd cA qM res))) args s 0 0 (adr W9)) (F0 m 95 ls [.int v0]) := by
  obtain ⟨hx, hb, hr, hml, hown, hts, hlocks, hK, hR, hRA⟩ := id C0
  intro zM v0 H locs ls hP hD hS hl hf
  unfold f_X7_putFunction_95 at hf
  refine lv_istore (lv' := [(4, .int v0), (0, .ref (qM 0))]) hx hb dX7_putFunction_95 hl (by decide) rfl (fun ls hl => ?_)
  refine lv_iload hx hb dX7_putFunction_97 (lv_at hl 0 rfl) ?_
  refine lv_iconst (v := 1) hx hb dX7_putFunction_99 (by decide) ?_
  refine lv_icmp_le (tgt := 110) hx hb dX7_putFunction_100 (by decide) (fun c_1 => ?_) (fun c_1 => ?_)
  · rw [if_pos (c_1)] at hf
    exact b_X7_putFunction_110 qM   C0  zM H locs ls hP hD hS (lv_sub hl [1] rfl) hf
  · rw [if_neg (c_1)] at hf
    refine lv_aload_n hx hb dX7_putFunction_103 rfl (lv_at hl 1 rfl) ?_
    refine lv_iload hx hb dX7_putFunction_104 (lv_at hl 0 rfl) ?_
    refine lv_i2l (v := v0.toInt64) hx hb dX7_putFunction_106 rfl ?_
    obtain ⟨r_2, hr_2, hf⟩ := obd hf
    refine cWvV (As := [.long v0.toInt64]) (rest := []) (W1 := ((wMd cA qM r_2))) ⟨hx, hb, hml, hown, hts⟩ (m_X7_putNumber l G cA qM zM v0.toInt64 r_2 hr_2) (cw_X7_putNumber hts wi_822 ⟨Nat.le_of_ble_eq_true rfl, Nat.le_of_ble_eq_true rfl⟩) hK hP hD hS [0, 1, 2, 3, 4] [5, 6, 7, 8, 9] rfl rfl rfl (by decide) rfl va_Pnil dj_nil (va_recv hK.1 hP (ci := 5) (q0 := 0) rfl rfl) rfl hl.1 rfl (Nat.le_of_ble_eq_true rfl) dX7_putFunction_107 ⟨Nat.zero_le _, Nat.zero_le _⟩ (fun H locs hP hD hS => ?_)
    exact b_X7_putFunction_110 qM   C0  r_2 H locs ls hP hD hS (lv_sub hl [1] rfl) hf
def f_X7_putFunction_85 (zM : MdS) (x3 : Int32) : Option (MdS) := if 0 ≤ x3 then f_X7_putFunction_95  zM x3 else f_X7_putFunction_95  zM (-x3)
set_option maxHeartbeats 4000000 in
set_option maxRecDepth 100000 in
theorem b_X7_putFunction_85 {p : Program} {l : Launch} {e : Env} {s : State} {m : MethodId} {args : Array Value} {below : List Frame} {meth : Method} {c : Code} {G : va_G} {cA : Nat → ClassId} {W9 : va_W} (qM : Nat → Nat) (C0 : Amb p s m args meth c cX7_putFunction RX7 5 none G cA (adr W9) []) {res : MdS} : ∀ (zM : MdS) (x3 : Int32) (H : Heap) (locs : List Loc) (ls : Array Slot), va_P G vwCl ((wMd cA qM zM)) H → va_D (adr W9) ((wMd cA qM zM)) → va_S (adr W9) s.heap H locs → lv_has ls 5 [(0, .ref (qM 0)), (3, .int x3)] → f_X7_putFunction_85 zM x3 = some res → W p l e rm_X7_putFunction s m args below meth c H locs 0 0 (MQ below (qWv G W9 ((wMd cA qM res))) args s 0 0 (adr W9)) (F0 m 85 ls []) := by
  obtain ⟨hx, hb, hr, hml, hown, hts, hlocks, hK, hR, hRA⟩ := id C0
  intro zM x3 H locs ls hP hD hS hl hf
  unfold f_X7_putFunction_85 at hf
  refine lv_iload_n hx hb dX7_putFunction_85 rfl (lv_at hl 1 rfl) ?_
  refine lv_if_ge (tgt := 94) hx hb dX7_putFunction_86 (by decide) (fun c_1 => ?_) (fun c_1 => ?_)
  · rw [if_pos (c_1)] at hf
    refine lv_iload_n hx hb dX7_putFunction_94 rfl (lv_at hl 1 rfl) ?_
    exact b_X7_putFunction_95 qM   C0  zM x3 H locs ls hP hD hS (lv_sub hl [0] rfl) hf
  · rw [if_neg (c_1)] at hf
    refine lv_iload_n hx hb dX7_putFunction_89 rfl (lv_at hl 1 rfl) ?_
    refine lv_ineg hx hb dX7_putFunction_90 ?_
    refine lv_goto (tgt := 95) hx hb dX7_putFunction_91 (by decide) ?_
    exact b_X7_putFunction_95 qM   C0  zM (-x3) H locs ls hP hD hS (lv_sub hl [0] rfl) hf
def f_X7_putFunction_66 (zM : MdS) (x3 : Int32) (v1 : Int32) : Option (MdS) := (f_X7_put zM v1).bind fun r_1 => (f_X7_put r_1 (40 : Int32)).bind fun r_2 => if 0 ≤ x3 then f_X7_putFunction_85  r_2 x3 else (f_X7_put r_2 (45 : Int32)).bind fun r_4 => f_X7_putFunction_85  r_4 x3
set_option maxHeartbeats 4000000 in
set_option maxRecDepth 100000 in
theorem b_X7_putFunction_66 {p : Program} {l : Launch} {e : Env} {s : State} {m : MethodId} {args : Array Value} {below : List Frame} {meth : Method} {c : Code} {G : va_G} {cA : Nat → ClassId} {W9 : va_W} (qM : Nat → Nat) (C0 : Amb p s m args meth c cX7_putFunction RX7 5 none G cA (adr W9) []) {res : MdS} : ∀ (zM : MdS) (x3 : Int32) (v1 : Int32) (H : Heap) (locs : List Loc) (ls : Array Slot), va_P G vwCl ((wMd cA qM zM)) H → va_D (adr W9) ((wMd cA qM zM)) → va_S (adr W9) s.heap H locs → lv_has ls 5 [(0, .ref (qM 0)), (3, .int x3)] → f_X7_putFunction_66 zM x3 v1 = some res → W p l e rm_X7_putFunction s m args below meth c H locs 0 0 (MQ below (qWv G W9 ((wMd cA qM res))) args s 0 0 (adr W9)) (F0 m 66 ls [.int v1, .ref (qM 0)]) := by
  obtain ⟨hx, hb, hr, hml, hown, hts, hlocks, hK, hR, hRA⟩ := id C0
  intro zM x3 v1 H locs ls hP hD hS hl hf
  unfold f_X7_putFunction_66 at hf
  obtain ⟨r_1, hr_1, hf⟩ := obd hf
  refine cWvV (As := [.int v1]) (rest := []) (W1 := ((wMd cA qM r_1))) ⟨hx, hb, hml, hown, hts⟩ (m_X7_put l G cA qM zM v1 r_1 hr_1) (cw_X7_put hts wi_818 ⟨Nat.le_of_ble_eq_true rfl, Nat.le_of_ble_eq_true rfl⟩) hK hP hD hS [0, 1, 2, 3, 4] [5, 6, 7, 8, 9] rfl rfl rfl (by decide) rfl va_Pnil dj_nil (va_recv hK.1 hP (ci := 5) (q0 := 0) rfl rfl) rfl hl.1 rfl (Nat.le_of_ble_eq_true rfl) dX7_putFunction_66 ⟨Nat.zero_le _, Nat.zero_le _⟩ (fun H locs hP hD hS => ?_)
  refine lv_aload_n hx hb dX7_putFunction_69 rfl (lv_at hl 0 rfl) ?_
  refine lv_bipush (v := (40 : Int32)) hx hb dX7_putFunction_70 (by decide) ?_
  obtain ⟨r_2, hr_2, hf⟩ := obd hf
  refine cWvV (As := [.int (40 : Int32)]) (rest := []) (W1 := ((wMd cA qM r_2))) ⟨hx, hb, hml, hown, hts⟩ (m_X7_put l G cA qM r_1 (40 : Int32) r_2 hr_2) (cw_X7_put hts wi_818 ⟨Nat.le_of_ble_eq_true rfl, Nat.le_of_ble_eq_true rfl⟩) hK hP hD hS [0, 1, 2, 3, 4] [5, 6, 7, 8, 9] rfl rfl rfl (by decide) rfl va_Pnil dj_nil (va_recv hK.1 hP (ci := 5) (q0 := 0) rfl rfl) rfl hl.1 rfl (Nat.le_of_ble_eq_true rfl) dX7_putFunction_72 ⟨Nat.zero_le _, Nat.zero_le _⟩ (fun H locs hP hD hS => ?_)
  refine lv_iload_n hx hb dX7_putFunction_75 rfl (lv_at hl 1 rfl) ?_
  refine lv_if_ge (tgt := 85) hx hb dX7_putFunction_76 (by decide) (fun c_3 => ?_) (fun c_3 => ?_)
  · rw [if_pos (c_3)] at hf
    exact b_X7_putFunction_85 qM   C0  r_2 x3 H locs ls hP hD hS (lv_sub hl [0, 1] rfl) hf
  · rw [if_neg (c_3)] at hf
    refine lv_aload_n hx hb dX7_putFunction_79 rfl (lv_at hl 0 rfl) ?_
    refine lv_bipush (v := (45 : Int32)) hx hb dX7_putFunction_80 (by decide) ?_
    obtain ⟨r_4, hr_4, hf⟩ := obd hf
    refine cWvV (As := [.int (45 : Int32)]) (rest := []) (W1 := ((wMd cA qM r_4))) ⟨hx, hb, hml, hown, hts⟩ (m_X7_put l G cA qM r_2 (45 : Int32) r_4 hr_4) (cw_X7_put hts wi_818 ⟨Nat.le_of_ble_eq_true rfl, Nat.le_of_ble_eq_true rfl⟩) hK hP hD hS [0, 1, 2, 3, 4] [5, 6, 7, 8, 9] rfl rfl rfl (by decide) rfl va_Pnil dj_nil (va_recv hK.1 hP (ci := 5) (q0 := 0) rfl rfl) rfl hl.1 rfl (Nat.le_of_ble_eq_true rfl) dX7_putFunction_82 ⟨Nat.zero_le _, Nat.zero_le _⟩ (fun H locs hP hD hS => ?_)
    exact b_X7_putFunction_85 qM   C0  r_4 x3 H locs ls hP hD hS (lv_sub hl [0, 1] rfl) hf
def f_X7_putFunction_38 (zM : MdS) (x2 : Int32) (x3 : Int32) : Option (MdS) := if x2 ≤ (1 : Int32) then some zM else if ¬ x2 = (2 : Int32) then if ¬ x2 = (3 : Int32) then f_X7_putFunction_66  zM x3 (99 : Int32) else f_X7_putFunction_66  zM x3 (115 : Int32) else f_X7_putFunction_66  zM x3 (101 : Int32)
set_option maxHeartbeats 4000000 in
set_option maxRecDepth 100000 in
theorem b_X7_putFunction_38 {p : Program} {l : Launch} {e : Env} {s : State} {m : MethodId} {args : Array Value} {below : List Frame} {meth : Method} {c : Code} {G : va_G} {cA : Nat → ClassId} {W9 : va_W} (qM : Nat → Nat) (C0 : Amb p s m args meth c cX7_putFunction RX7 5 none G cA (adr W9) []) {res : MdS} : ∀ (zM : MdS) (x2 : Int32) (x3 : Int32) (H : Heap) (locs : List Loc) (ls : Array Slot), va_P G vwCl ((wMd cA qM zM)) H → va_D (adr W9) ((wMd cA qM zM)) → va_S (adr W9) s.heap H locs → lv_has ls 5 [(0, .ref (qM 0)), (2, .int x2), (3, .int x3)] → f_X7_putFunction_38 zM x2 x3 = some res → W p l e rm_X7_putFunction s m args below meth c H locs 0 0 (MQ below (qWv G W9 ((wMd cA qM res))) args s 0 0 (adr W9)) (F0 m 38 ls []) := by
  obtain ⟨hx, hb, hr, hml, hown, hts, hlocks, hK, hR, hRA⟩ := id C0
  intro zM x2 x3 H locs ls hP hD hS hl hf
  unfold f_X7_putFunction_38 at hf
  refine lv_iload_n hx hb dX7_putFunction_38 rfl (lv_at hl 1 rfl) ?_
  refine lv_iconst (v := 1) hx hb dX7_putFunction_39 (by decide) ?_
  refine lv_icmp_le (tgt := 122) hx hb dX7_putFunction_40 (by decide) (fun c_1 => ?_) (fun c_1 => ?_)
  · rw [if_pos (c_1)] at hf
    cases hf
    exact W.vret hx hb hr (fun t ht hW => ⟨⟨(), rfl, trivial, toT ht hP⟩, hS.F ht⟩) hS.2.2 dX7_putFunction_122 hlocks
  · rw [if_neg (c_1)] at hf
    refine lv_aload_n hx hb dX7_putFunction_43 rfl (lv_at hl 0 rfl) ?_
    refine lv_iload_n hx hb dX7_putFunction_44 rfl (lv_at hl 1 rfl) ?_
    refine lv_iconst (v := 2) hx hb dX7_putFunction_45 (by decide) ?_
    refine lv_icmp_ne (tgt := 54) hx hb dX7_putFunction_46 (by decide) (fun c_2 => ?_) (fun c_2 => ?_)
    · rw [if_pos (c_2)] at hf
      refine lv_iload_n hx hb dX7_putFunction_54 rfl (lv_at hl 1 rfl) ?_
      refine lv_iconst (v := 3) hx hb dX7_putFunction_55 (by decide) ?_
      refine lv_icmp_ne (tgt := 64) hx hb dX7_putFunction_56 (by decide) (fun c_3 => ?_) (fun c_3 => ?_)
      · rw [if_pos (c_3)] at hf
        refine lv_bipush (v := (99 : Int32)) hx hb dX7_putFunction_64 (by decide) ?_
        exact b_X7_putFunction_66 qM   C0  zM x3 (99 : Int32) H locs ls hP hD hS (lv_sub hl [0, 2] rfl) hf
      · rw [if_neg (not_not_intro c_3)] at hf
        refine lv_bipush (v := (115 : Int32)) hx hb dX7_putFunction_59 (by decide) ?_
        refine lv_goto (tgt := 66) hx hb dX7_putFunction_61 (by decide) ?_
        exact b_X7_putFunction_66 qM   C0  zM x3 (115 : Int32) H locs ls hP hD hS (lv_sub hl [0, 2] rfl) hf
    · rw [if_neg (not_not_intro c_2)] at hf
      refine lv_bipush (v := (101 : Int32)) hx hb dX7_putFunction_49 (by decide) ?_
      refine lv_goto (tgt := 66) hx hb dX7_putFunction_51 (by decide) ?_
      exact b_X7_putFunction_66 qM   C0  zM x3 (101 : Int32) H locs ls hP hD hS (lv_sub hl [0, 2] rfl) hf
def f_X7_putFunction (zM : MdS) (a1 : Int32) : Option (MdS) := (f_X7_kindOf a1).bind fun r_1 => (f_X7_countOf a1).bind fun r_2 => if ¬ r_1 = (1 : Int32) then f_X7_putFunction_38  zM r_1 r_2 else (f_X7_put zM (108 : Int32)).bind fun r_4 => if r_2 ≤ (1 : Int32) then f_X7_putFunction_38  r_4 r_1 r_2 else (f_X7_put r_4 (94 : Int32)).bind fun r_6 => (f_X7_putNumber r_6 r_2.toInt64).bind fun r_7 => f_X7_putFunction_38  r_7 r_1 r_2
set_option maxHeartbeats 4000000 in
set_option maxRecDepth 100000 in
theorem b_X7_putFunction_0 {p : Program} {l : Launch} {e : Env} {s : State} {m : MethodId} {args : Array Value} {below : List Frame} {meth : Method} {c : Code} {G : va_G} {cA : Nat → ClassId} {W9 : va_W} (qM : Nat → Nat) (C0 : Amb p s m args meth c cX7_putFunction RX7 5 none G cA (adr W9) []) {res : MdS} : ∀ (zM : MdS) (a1 : Int32) (H : Heap) (locs : List Loc) (ls : Array Slot), va_P G vwCl ((wMd cA qM zM)) H → va_D (adr W9) ((wMd cA qM zM)) → va_S (adr W9) s.heap H locs → lv_has ls 5 [(0, .ref (qM 0)), (1, .int a1)] → f_X7_putFunction zM a1 = some res → W p l e rm_X7_putFunction s m args below meth c H locs 0 0 (MQ below (qWv G W9 ((wMd cA qM res))) args s 0 0 (adr W9)) (F0 m 0 ls []) := by
  obtain ⟨hx, hb, hr, hml, hown, hts, hlocks, hK, hR, hRA⟩ := id C0
  intro zM a1 H locs ls hP hD hS hl hf
  unfold f_X7_putFunction at hf
  refine lv_iload_n hx hb dX7_putFunction_0 rfl (lv_at hl 1 rfl) ?_
  obtain ⟨r_1, hr_1, hf⟩ := obd hf
  refine cRiS (As := [.int a1]) (rest := []) ⟨hx, hb, hml, hown, hts⟩ (m_X7_kindOf l G cA a1 r_1 hr_1) (cw_X7_kindOf hts wi_833 ⟨Nat.le_of_ble_eq_true rfl, Nat.le_of_ble_eq_true rfl⟩) hK va_Pnil rfl hl.1 rfl (Nat.le_of_ble_eq_true rfl) dX7_putFunction_1 ⟨Nat.zero_le _, Nat.zero_le _⟩ ?_
  refine lv_istore_n (lv' := [(2, .int r_1), (0, .ref (qM 0)), (1, .int a1)]) hx hb dX7_putFunction_4 rfl hl (by decide) rfl (fun ls hl => ?_)
  refine lv_iload_n hx hb dX7_putFunction_5 rfl (lv_at hl 2 rfl) ?_
  obtain ⟨r_2, hr_2, hf⟩ := obd hf
  refine cRiS (As := [.int a1]) (rest := []) ⟨hx, hb, hml, hown, hts⟩ (m_X7_countOf l G cA a1 r_2 hr_2) (cw_X7_countOf hts wi_836 ⟨Nat.le_of_ble_eq_true rfl, Nat.le_of_ble_eq_true rfl⟩) hK va_Pnil rfl hl.1 rfl (Nat.le_of_ble_eq_true rfl) dX7_putFunction_6 ⟨Nat.zero_le _, Nat.zero_le _⟩ ?_
  refine lv_istore_n (lv' := [(3, .int r_2), (2, .int r_1), (0, .ref (qM 0)), (1, .int a1)]) hx hb dX7_putFunction_9 rfl hl (by decide) rfl (fun ls hl => ?_)
  refine lv_iload_n hx hb dX7_putFunction_10 rfl (lv_at hl 1 rfl) ?_
  refine lv_iconst (v := 1) hx hb dX7_putFunction_11 (by decide) ?_
  refine lv_icmp_ne (tgt := 38) hx hb dX7_putFunction_12 (by decide) (fun c_3 => ?_) (fun c_3 => ?_)
  · rw [if_pos (c_3)] at hf
    exact b_X7_putFunction_38 qM   C0  zM r_1 r_2 H locs ls hP hD hS (lv_sub hl [2, 1, 0] rfl) hf
  · rw [if_neg (not_not_intro c_3)] at hf
    refine lv_aload_n hx hb dX7_putFunction_15 rfl (lv_at hl 2 rfl) ?_
    refine lv_bipush (v := (108 : Int32)) hx hb dX7_putFunction_16 (by decide) ?_
    obtain ⟨r_4, hr_4, hf⟩ := obd hf
    refine cWvV (As := [.int (108 : Int32)]) (rest := []) (W1 := ((wMd cA qM r_4))) ⟨hx, hb, hml, hown, hts⟩ (m_X7_put l G cA qM zM (108 : Int32) r_4 hr_4) (cw_X7_put hts wi_818 ⟨Nat.le_of_ble_eq_true rfl, Nat.le_of_ble_eq_true rfl⟩) hK hP hD hS [0, 1, 2, 3, 4] [5, 6, 7, 8, 9] rfl rfl rfl (by decide) rfl va_Pnil dj_nil (va_recv hK.1 hP (ci := 5) (q0 := 0) rfl rfl) rfl hl.1 rfl (Nat.le_of_ble_eq_true rfl) dX7_putFunction_18 ⟨Nat.zero_le _, Nat.zero_le _⟩ (fun H locs hP hD hS => ?_)
    refine lv_iload_n hx hb dX7_putFunction_21 rfl (lv_at hl 0 rfl) ?_
    refine lv_iconst (v := 1) hx hb dX7_putFunction_22 (by decide) ?_
    refine lv_icmp_le (tgt := 38) hx hb dX7_putFunction_23 (by decide) (fun c_5 => ?_) (fun c_5 => ?_)
    · rw [if_pos (c_5)] at hf
      exact b_X7_putFunction_38 qM   C0  r_4 r_1 r_2 H locs ls hP hD hS (lv_sub hl [2, 1, 0] rfl) hf
    · rw [if_neg (c_5)] at hf
      refine lv_aload_n hx hb dX7_putFunction_26 rfl (lv_at hl 2 rfl) ?_
      refine lv_bipush (v := (94 : Int32)) hx hb dX7_putFunction_27 (by decide) ?_
      obtain ⟨r_6, hr_6, hf⟩ := obd hf
      refine cWvV (As := [.int (94 : Int32)]) (rest := []) (W1 := ((wMd cA qM r_6))) ⟨hx, hb, hml, hown, hts⟩ (m_X7_put l G cA qM r_4 (94 : Int32) r_6 hr_6) (cw_X7_put hts wi_818 ⟨Nat.le_of_ble_eq_true rfl, Nat.le_of_ble_eq_true rfl⟩) hK hP hD hS [0, 1, 2, 3, 4] [5, 6, 7, 8, 9] rfl rfl rfl (by decide) rfl va_Pnil dj_nil (va_recv hK.1 hP (ci := 5) (q0 := 0) rfl rfl) rfl hl.1 rfl (Nat.le_of_ble_eq_true rfl) dX7_putFunction_29 ⟨Nat.zero_le _, Nat.zero_le _⟩ (fun H locs hP hD hS => ?_)
      refine lv_aload_n hx hb dX7_putFunction_32 rfl (lv_at hl 2 rfl) ?_
      refine lv_iload_n hx hb dX7_putFunction_33 rfl (lv_at hl 0 rfl) ?_
      refine lv_i2l (v := r_2.toInt64) hx hb dX7_putFunction_34 rfl ?_
      obtain ⟨r_7, hr_7, hf⟩ := obd hf
      refine cWvV (As := [.long r_2.toInt64]) (rest := []) (W1 := ((wMd cA qM r_7))) ⟨hx, hb, hml, hown, hts⟩ (m_X7_putNumber l G cA qM r_6 r_2.toInt64 r_7 hr_7) (cw_X7_putNumber hts wi_822 ⟨Nat.le_of_ble_eq_true rfl, Nat.le_of_ble_eq_true rfl⟩) hK hP hD hS [0, 1, 2, 3, 4] [5, 6, 7, 8, 9] rfl rfl rfl (by decide) rfl va_Pnil dj_nil (va_recv hK.1 hP (ci := 5) (q0 := 0) rfl rfl) rfl hl.1 rfl (Nat.le_of_ble_eq_true rfl) dX7_putFunction_35 ⟨Nat.zero_le _, Nat.zero_le _⟩ (fun H locs hP hD hS => ?_)
      exact b_X7_putFunction_38 qM   C0  r_7 r_1 r_2 H locs ls hP hD hS (lv_sub hl [2, 1, 0] rfl) hf

set_option maxRecDepth 100000 in
theorem m_X7_putFunction (l : Launch) (G : va_G) (cA : Nat → ClassId) (qM : Nat → Nat) (zM : MdS) (a1 : Int32) (res : MdS) (hf : f_X7_putFunction zM a1 = some res) : MWv l yX7_putFunction (.code yX7_putFunction cX7_putFunction 5 none :: wd) rm_X7_putFunction G cA [.ref (qM 0), .int a1] ((wMd cA qM zM)) [] ((wMd cA qM res)) := by
  refine Met.ofW (cc := cX7_putFunction) (maxL := 5) (ret := none) (by decide) rfl ?_
  intro p e s m args below meth c s₁ B hml hv
  obtain ⟨rfl, hK, hP, hD0, hR, hRA⟩ := hv
  have C0 : Amb p s m ([.ref (qM 0), .int a1] : List Value).toArray meth c cX7_putFunction RX7 5 none G cA (adr ((wMd cA qM zM))) [] := ⟨B.exec, B.bytes, B.returns, hml, findClass_of_methodNamed B.named, fun w h => atoms_spec (ws := (.code yX7_putFunction cX7_putFunction 5 none :: wd)) B.pre w (List.mem_cons_of_mem _ h), B.notSynchronized, hK, hR, hRA⟩
  have hl := lv_entry ([.ref (qM 0), .int a1]) (n := 5) (Nat.le_of_ble_eq_true rfl)
  rw [lg_entry_eq]
  generalize (lg_sl ([.ref (qM 0), .int a1]) ++ List.replicate (5 - (lg_sl ([.ref (qM 0), .int a1])).length) Slot.unset).toArray = ls at hl ⊢
  have hl : lv_has ls 5 [(0, .ref (qM 0)), (1, .int a1)] := hl
  exact b_X7_putFunction_0 (W9 := ((wMd cA qM zM))) qM   C0 zM a1 s.heap [] ls hP (adr.self hD0) va_S.rf hl hf
theorem cw_X7_putFunction {R : Room} {s : State} {args : Array Value} {own : String} {index : Nat} (ht : ∀ w ∈ wd, w.before args s = true) (hlink : Cond.methodLink own index yX7_putFunction ∈ wd) (hR : rm_X7_putFunction.frames + 1 ≤ R.frames ∧ 8 + (5 + 11) + rm_X7_putFunction.locals ≤ R.locals) : CallW R s args own RX7 index yX7_putFunction cX7_putFunction 5 none (.code yX7_putFunction cX7_putFunction 5 none :: wd) rm_X7_putFunction 0 0 1 := cwV9 1 ht wi_832 wi_831 wi_47 wi_60 hlink (by decide +kernel) rfl rfl hR
def rm_X7_putTerm : Room := { frames := 3, cells := 0, slots := 0, locals := 71 }
def f_X7_putTerm_140 (zM : MdS) (x1 : Int32) : Option (MdS) := (f_X7_putFunction zM x1).bind fun r_1 => some r_1
set_option maxHeartbeats 4000000 in
set_option maxRecDepth 100000 in
theorem b_X7_putTerm_140 {p : Program} {l : Launch} {e : Env} {s : State} {m : MethodId} {args : Array Value} {below : List Frame} {meth : Method} {c : Code} {G : va_G} {cA : Nat → ClassId} {W9 : va_W} (qM : Nat → Nat) (C0 : Amb p s m args meth c cX7_putTerm RX7 9 none G cA (adr W9) []) {res : MdS} : ∀ (zM : MdS) (x1 : Int32) (H : Heap) (locs : List Loc) (ls : Array Slot), va_P G vwCl ((wMd cA qM zM)) H → va_D (adr W9) ((wMd cA qM zM)) → va_S (adr W9) s.heap H locs → lv_has ls 9 [(0, .ref (qM 0)), (1, .int x1)] → f_X7_putTerm_140 zM x1 = some res → W p l e rm_X7_putTerm s m args below meth c H locs 0 0 (MQ below (qWv G W9 ((wMd cA qM res))) args s 0 0 (adr W9)) (F0 m 140 ls []) := by
  obtain ⟨hx, hb, hr, hml, hown, hts, hlocks, hK, hR, hRA⟩ := id C0
  intro zM x1 H locs ls hP hD hS hl hf
  unfold f_X7_putTerm_140 at hf
  refine lv_aload_n hx hb dX7_putTerm_140 rfl (lv_at hl 0 rfl) ?_
  refine lv_iload_n hx hb dX7_putTerm_141 rfl (lv_at hl 1 rfl) ?_
  obtain ⟨r_1, hr_1, hf⟩ := obd hf
  refine cWvV (As := [.int x1]) (rest := []) (W1 := ((wMd cA qM r_1))) ⟨hx, hb, hml, hown, hts⟩ (m_X7_putFunction l G cA qM zM x1 r_1 hr_1) (cw_X7_putFunction hts wi_829 ⟨Nat.le_of_ble_eq_true rfl, Nat.le_of_ble_eq_true rfl⟩) hK hP hD hS [0, 1, 2, 3, 4] [5, 6, 7, 8, 9] rfl rfl rfl (by decide) rfl va_Pnil dj_nil (va_recv hK.1 hP (ci := 5) (q0 := 0) rfl rfl) rfl hl.1 rfl (Nat.le_of_ble_eq_true rfl) dX7_putTerm_142 ⟨Nat.zero_le _, Nat.zero_le _⟩ (fun H locs hP hD hS => ?_)
  cases hf
  exact W.vret hx hb hr (fun t ht hW => ⟨⟨(), rfl, trivial, toT ht hP⟩, hS.F ht⟩) hS.2.2 dX7_putTerm_145 hlocks
def f_X7_putTerm_137 (zM : MdS) (x1 : Int32) (v1 : Int64) : Option (MdS) := (f_X7_putNumber zM v1).bind fun r_1 => f_X7_putTerm_140  r_1 x1
set_option maxHeartbeats 4000000 in
set_option maxRecDepth 100000 in
theorem b_X7_putTerm_137 {p : Program} {l : Launch} {e : Env} {s : State} {m : MethodId} {args : Array Value} {below : List Frame} {meth : Method} {c : Code} {G : va_G} {cA : Nat → ClassId} {W9 : va_W} (qM : Nat → Nat) (C0 : Amb p s m args meth c cX7_putTerm RX7 9 none G cA (adr W9) []) {res : MdS} : ∀ (zM : MdS) (x1 : Int32) (v1 : Int64) (H : Heap) (locs : List Loc) (ls : Array Slot), va_P G vwCl ((wMd cA qM zM)) H → va_D (adr W9) ((wMd cA qM zM)) → va_S (adr W9) s.heap H locs → lv_has ls 9 [(0, .ref (qM 0)), (1, .int x1)] → f_X7_putTerm_137 zM x1 v1 = some res → W p l e rm_X7_putTerm s m args below meth c H locs 0 0 (MQ below (qWv G W9 ((wMd cA qM res))) args s 0 0 (adr W9)) (F0 m 137 ls [.long v1, .ref (qM 0)]) := by
  obtain ⟨hx, hb, hr, hml, hown, hts, hlocks, hK, hR, hRA⟩ := id C0
  intro zM x1 v1 H locs ls hP hD hS hl hf
  unfold f_X7_putTerm_137 at hf
  obtain ⟨r_1, hr_1, hf⟩ := obd hf
  refine cWvV (As := [.long v1]) (rest := []) (W1 := ((wMd cA qM r_1))) ⟨hx, hb, hml, hown, hts⟩ (m_X7_putNumber l G cA qM zM v1 r_1 hr_1) (cw_X7_putNumber hts wi_822 ⟨Nat.le_of_ble_eq_true rfl, Nat.le_of_ble_eq_true rfl⟩) hK hP hD hS [0, 1, 2, 3, 4] [5, 6, 7, 8, 9] rfl rfl rfl (by decide) rfl va_Pnil dj_nil (va_recv hK.1 hP (ci := 5) (q0 := 0) rfl rfl) rfl hl.1 rfl (Nat.le_of_ble_eq_true rfl) dX7_putTerm_137 ⟨Nat.zero_le _, Nat.zero_le _⟩ (fun H locs hP hD hS => ?_)
  exact b_X7_putTerm_140 qM   C0  r_1 x1 H locs ls hP hD hS (lv_sub hl [0, 1] rfl) hf
def f_X7_putTerm_124 (zM : MdS) (x1 : Int32) (x2 : Int32) : Option (MdS) := if 0 ≤ x2 then f_X7_putTerm_137  zM x1 x2.toInt64 else f_X7_putTerm_137  zM x1 ((-x2).toInt64)
set_option maxHeartbeats 4000000 in
set_option maxRecDepth 100000 in
theorem b_X7_putTerm_124 {p : Program} {l : Launch} {e : Env} {s : State} {m : MethodId} {args : Array Value} {below : List Frame} {meth : Method} {c : Code} {G : va_G} {cA : Nat → ClassId} {W9 : va_W} (qM : Nat → Nat) (C0 : Amb p s m args meth c cX7_putTerm RX7 9 none G cA (adr W9) []) {res : MdS} : ∀ (zM : MdS) (x1 : Int32) (x2 : Int32) (H : Heap) (locs : List Loc) (ls : Array Slot), va_P G vwCl ((wMd cA qM zM)) H → va_D (adr W9) ((wMd cA qM zM)) → va_S (adr W9) s.heap H locs → lv_has ls 9 [(0, .ref (qM 0)), (1, .int x1), (2, .int x2)] → f_X7_putTerm_124 zM x1 x2 = some res → W p l e rm_X7_putTerm s m args below meth c H locs 0 0 (MQ below (qWv G W9 ((wMd cA qM res))) args s 0 0 (adr W9)) (F0 m 124 ls []) := by
  obtain ⟨hx, hb, hr, hml, hown, hts, hlocks, hK, hR, hRA⟩ := id C0
  intro zM x1 x2 H locs ls hP hD hS hl hf
  unfold f_X7_putTerm_124 at hf
  refine lv_aload_n hx hb dX7_putTerm_124 rfl (lv_at hl 0 rfl) ?_
  refine lv_iload_n hx hb dX7_putTerm_125 rfl (lv_at hl 2 rfl) ?_
  refine lv_if_ge (tgt := 135) hx hb dX7_putTerm_126 (by decide) (fun c_1 => ?_) (fun c_1 => ?_)
  · rw [if_pos (c_1)] at hf
    refine lv_iload_n hx hb dX7_putTerm_135 rfl (lv_at hl 2 rfl) ?_
    refine lv_i2l (v := x2.toInt64) hx hb dX7_putTerm_136 rfl ?_
    exact b_X7_putTerm_137 qM   C0  zM x1 x2.toInt64 H locs ls hP hD hS (lv_sub hl [0, 1] rfl) hf
  · rw [if_neg (c_1)] at hf
    refine lv_iload_n hx hb dX7_putTerm_129 rfl (lv_at hl 2 rfl) ?_
    refine lv_ineg hx hb dX7_putTerm_130 ?_
    refine lv_i2l (v := (-x2).toInt64) hx hb dX7_putTerm_131 rfl ?_
    refine lv_goto (tgt := 137) hx hb dX7_putTerm_132 (by decide) ?_
    exact b_X7_putTerm_137 qM   C0  zM x1 ((-x2).toInt64) H locs ls hP hD hS (lv_sub hl [0, 1] rfl) hf
def f_X7_putTerm_99 (zM : MdS) (x1 : Int32) (x2 : Int32) : Option (MdS) := if x2 = 0 then f_X7_putTerm_140  zM x1 else if x2 = (1 : Int32) then f_X7_putTerm_140  zM x1 else (f_X7_put zM (94 : Int32)).bind fun r_3 => if 0 ≤ x2 then f_X7_putTerm_124  r_3 x1 x2 else (f_X7_put r_3 (45 : Int32)).bind fun r_5 => f_X7_putTerm_124  r_5 x1 x2
set_option maxHeartbeats 4000000 in
set_option maxRecDepth 100000 in
theorem b_X7_putTerm_99 {p : Program} {l : Launch} {e : Env} {s : State} {m : MethodId} {args : Array Value} {below : List Frame} {meth : Method} {c : Code} {G : va_G} {cA : Nat → ClassId} {W9 : va_W} (qM : Nat → Nat) (C0 : Amb p s m args meth c cX7_putTerm RX7 9 none G cA (adr W9) []) {res : MdS} : ∀ (zM : MdS) (x1 : Int32) (x2 : Int32) (H : Heap) (locs : List Loc) (ls : Array Slot), va_P G vwCl ((wMd cA qM zM)) H → va_D (adr W9) ((wMd cA qM zM)) → va_S (adr W9) s.heap H locs → lv_has ls 9 [(0, .ref (qM 0)), (1, .int x1), (2, .int x2)] → f_X7_putTerm_99 zM x1 x2 = some res → W p l e rm_X7_putTerm s m args below meth c H locs 0 0 (MQ below (qWv G W9 ((wMd cA qM res))) args s 0 0 (adr W9)) (F0 m 99 ls []) := by
  obtain ⟨hx, hb, hr, hml, hown, hts, hlocks, hK, hR, hRA⟩ := id C0
  intro zM x1 x2 H locs ls hP hD hS hl hf
  unfold f_X7_putTerm_99 at hf
  refine lv_iload_n hx hb dX7_putTerm_99 rfl (lv_at hl 2 rfl) ?_
  refine lv_if_eq (tgt := 140) hx hb dX7_putTerm_100 (by decide) (fun c_1 => ?_) (fun c_1 => ?_)
  · rw [if_pos (c_1)] at hf
    exact b_X7_putTerm_140 qM   C0  zM x1 H locs ls hP hD hS (lv_sub hl [0, 1] rfl) hf
  · rw [if_neg (c_1)] at hf
    refine lv_iload_n hx hb dX7_putTerm_103 rfl (lv_at hl 2 rfl) ?_
    refine lv_iconst (v := 1) hx hb dX7_putTerm_104 (by decide) ?_
    refine lv_icmp_eq (tgt := 140) hx hb dX7_putTerm_105 (by decide) (fun c_2 => ?_) (fun c_2 => ?_)
    · rw [if_pos (c_2)] at hf
      exact b_X7_putTerm_140 qM   C0  zM x1 H locs ls hP hD hS (lv_sub hl [0, 1] rfl) hf
    · rw [if_neg (c_2)] at hf
      refine lv_aload_n hx hb dX7_putTerm_108 rfl (lv_at hl 0 rfl) ?_
      refine lv_bipush (v := (94 : Int32)) hx hb dX7_putTerm_109 (by decide) ?_
      obtain ⟨r_3, hr_3, hf⟩ := obd hf
      refine cWvV (As := [.int (94 : Int32)]) (rest := []) (W1 := ((wMd cA qM r_3))) ⟨hx, hb, hml, hown, hts⟩ (m_X7_put l G cA qM zM (94 : Int32) r_3 hr_3) (cw_X7_put hts wi_818 ⟨Nat.le_of_ble_eq_true rfl, Nat.le_of_ble_eq_true rfl⟩) hK hP hD hS [0, 1, 2, 3, 4] [5, 6, 7, 8, 9] rfl rfl rfl (by decide) rfl va_Pnil dj_nil (va_recv hK.1 hP (ci := 5) (q0 := 0) rfl rfl) rfl hl.1 rfl (Nat.le_of_ble_eq_true rfl) dX7_putTerm_111 ⟨Nat.zero_le _, Nat.zero_le _⟩ (fun H locs hP hD hS => ?_)
      refine lv_iload_n hx hb dX7_putTerm_114 rfl (lv_at hl 2 rfl) ?_
      refine lv_if_ge (tgt := 124) hx hb dX7_putTerm_115 (by decide) (fun c_4 => ?_) (fun c_4 => ?_)
      · rw [if_pos (c_4)] at hf
        exact b_X7_putTerm_124 qM   C0  r_3 x1 x2 H locs ls hP hD hS (lv_sub hl [0, 1, 2] rfl) hf
      · rw [if_neg (c_4)] at hf
        refine lv_aload_n hx hb dX7_putTerm_118 rfl (lv_at hl 0 rfl) ?_
        refine lv_bipush (v := (45 : Int32)) hx hb dX7_putTerm_119 (by decide) ?_
        obtain ⟨r_5, hr_5, hf⟩ := obd hf
        refine cWvV (As := [.int (45 : Int32)]) (rest := []) (W1 := ((wMd cA qM r_5))) ⟨hx, hb, hml, hown, hts⟩ (m_X7_put l G cA qM r_3 (45 : Int32) r_5 hr_5) (cw_X7_put hts wi_818 ⟨Nat.le_of_ble_eq_true rfl, Nat.le_of_ble_eq_true rfl⟩) hK hP hD hS [0, 1, 2, 3, 4] [5, 6, 7, 8, 9] rfl rfl rfl (by decide) rfl va_Pnil dj_nil (va_recv hK.1 hP (ci := 5) (q0 := 0) rfl rfl) rfl hl.1 rfl (Nat.le_of_ble_eq_true rfl) dX7_putTerm_121 ⟨Nat.zero_le _, Nat.zero_le _⟩ (fun H locs hP hD hS => ?_)
        exact b_X7_putTerm_124 qM   C0  r_5 x1 x2 H locs ls hP hD hS (lv_sub hl [0, 1, 2] rfl) hf
def f_X7_putTerm_89 (zM : MdS) (x1 : Int32) (x2 : Int32) : Option (MdS) := if x2 = 0 then f_X7_putTerm_99  zM x1 x2 else (f_X7_put zM (120 : Int32)).bind fun r_2 => f_X7_putTerm_99  r_2 x1 x2
set_option maxHeartbeats 4000000 in
set_option maxRecDepth 100000 in
theorem b_X7_putTerm_89 {p : Program} {l : Launch} {e : Env} {s : State} {m : MethodId} {args : Array Value} {below : List Frame} {meth : Method} {c : Code} {G : va_G} {cA : Nat → ClassId} {W9 : va_W} (qM : Nat → Nat) (C0 : Amb p s m args meth c cX7_putTerm RX7 9 none G cA (adr W9) []) {res : MdS} : ∀ (zM : MdS) (x1 : Int32) (x2 : Int32) (H : Heap) (locs : List Loc) (ls : Array Slot), va_P G vwCl ((wMd cA qM zM)) H → va_D (adr W9) ((wMd cA qM zM)) → va_S (adr W9) s.heap H locs → lv_has ls 9 [(0, .ref (qM 0)), (1, .int x1), (2, .int x2)] → f_X7_putTerm_89 zM x1 x2 = some res → W p l e rm_X7_putTerm s m args below meth c H locs 0 0 (MQ below (qWv G W9 ((wMd cA qM res))) args s 0 0 (adr W9)) (F0 m 89 ls []) := by
  obtain ⟨hx, hb, hr, hml, hown, hts, hlocks, hK, hR, hRA⟩ := id C0
  intro zM x1 x2 H locs ls hP hD hS hl hf
  unfold f_X7_putTerm_89 at hf
  refine lv_iload_n hx hb dX7_putTerm_89 rfl (lv_at hl 2 rfl) ?_
  refine lv_if_eq (tgt := 99) hx hb dX7_putTerm_90 (by decide) (fun c_1 => ?_) (fun c_1 => ?_)
  · rw [if_pos (c_1)] at hf
    exact b_X7_putTerm_99 qM   C0  zM x1 x2 H locs ls hP hD hS (lv_sub hl [0, 1, 2] rfl) hf
  · rw [if_neg (c_1)] at hf
    refine lv_aload_n hx hb dX7_putTerm_93 rfl (lv_at hl 0 rfl) ?_
    refine lv_bipush (v := (120 : Int32)) hx hb dX7_putTerm_94 (by decide) ?_
    obtain ⟨r_2, hr_2, hf⟩ := obd hf
    refine cWvV (As := [.int (120 : Int32)]) (rest := []) (W1 := ((wMd cA qM r_2))) ⟨hx, hb, hml, hown, hts⟩ (m_X7_put l G cA qM zM (120 : Int32) r_2 hr_2) (cw_X7_put hts wi_818 ⟨Nat.le_of_ble_eq_true rfl, Nat.le_of_ble_eq_true rfl⟩) hK hP hD hS [0, 1, 2, 3, 4] [5, 6, 7, 8, 9] rfl rfl rfl (by decide) rfl va_Pnil dj_nil (va_recv hK.1 hP (ci := 5) (q0 := 0) rfl rfl) rfl hl.1 rfl (Nat.le_of_ble_eq_true rfl) dX7_putTerm_96 ⟨Nat.zero_le _, Nat.zero_le _⟩ (fun H locs hP hD hS => ?_)
    exact b_X7_putTerm_99 qM   C0  r_2 x1 x2 H locs ls hP hD hS (lv_sub hl [0, 1, 2] rfl) hf
def f_X7_putTerm_64 (zM : MdS) (x1 : Int32) (x2 : Int32) (x5 : Int64) (x7 : Int64) : Option (MdS) := (f_X7_putNumber zM x7).bind fun r_1 => if x5 = (1 : Int64) then f_X7_putTerm_89  r_1 x1 x2 else (f_X7_put r_1 (47 : Int32)).bind fun r_3 => (f_X7_putNumber r_3 x5).bind fun r_4 => f_X7_putTerm_89  r_4 x1 x2
set_option maxHeartbeats 4000000 in
set_option maxRecDepth 100000 in
theorem b_X7_putTerm_64 {p : Program} {l : Launch} {e : Env} {s : State} {m : MethodId} {args : Array Value} {below : List Frame} {meth : Method} {c : Code} {G : va_G} {cA : Nat → ClassId} {W9 : va_W} (qM : Nat → Nat) (C0 : Amb p s m args meth c cX7_putTerm RX7 9 none G cA (adr W9) []) {res : MdS} : ∀ (zM : MdS) (x1 : Int32) (x2 : Int32) (x5 : Int64) (x7 : Int64) (H : Heap) (locs : List Loc) (ls : Array Slot), va_P G vwCl ((wMd cA qM zM)) H → va_D (adr W9) ((wMd cA qM zM)) → va_S (adr W9) s.heap H locs → lv_has ls 9 [(0, .ref (qM 0)), (1, .int x1), (2, .int x2), (5, .long x5), (7, .long x7)] → f_X7_putTerm_64 zM x1 x2 x5 x7 = some res → W p l e rm_X7_putTerm s m args below meth c H locs 0 0 (MQ below (qWv G W9 ((wMd cA qM res))) args s 0 0 (adr W9)) (F0 m 64 ls []) := by
  obtain ⟨hx, hb, hr, hml, hown, hts, hlocks, hK, hR, hRA⟩ := id C0
  intro zM x1 x2 x5 x7 H locs ls hP hD hS hl hf
  unfold f_X7_putTerm_64 at hf
  refine lv_aload_n hx hb dX7_putTerm_64 rfl (lv_at hl 0 rfl) ?_
  refine lv_lload hx hb dX7_putTerm_65 (lv_at hl 4 rfl) ?_
  obtain ⟨r_1, hr_1, hf⟩ := obd hf
  refine cWvV (As := [.long x7]) (rest := []) (W1 := ((wMd cA qM r_1))) ⟨hx, hb, hml, hown, hts⟩ (m_X7_putNumber l G cA qM zM x7 r_1 hr_1) (cw_X7_putNumber hts wi_822 ⟨Nat.le_of_ble_eq_true rfl, Nat.le_of_ble_eq_true rfl⟩) hK hP hD hS [0, 1, 2, 3, 4] [5, 6, 7, 8, 9] rfl rfl rfl (by decide) rfl va_Pnil dj_nil (va_recv hK.1 hP (ci := 5) (q0 := 0) rfl rfl) rfl hl.1 rfl (Nat.le_of_ble_eq_true rfl) dX7_putTerm_67 ⟨Nat.zero_le _, Nat.zero_le _⟩ (fun H locs hP hD hS => ?_)
  refine lv_lload hx hb dX7_putTerm_70 (lv_at hl 3 rfl) ?_
  refine lv_lconst (v := (1 : Int64)) hx hb dX7_putTerm_72 (by decide) ?_
  refine W.lcmp hx hb dX7_putTerm_73 ?_
  refine lv_if_eq (tgt := 89) hx hb dX7_putTerm_74 (by decide) (fun c_2 => ?_) (fun c_2 => ?_)
  · rw [if_pos ((lg_cmp_eq _ _).mp c_2)] at hf
    exact b_X7_putTerm_89 qM   C0  r_1 x1 x2 H locs ls hP hD hS (lv_sub hl [0, 1, 2] rfl) hf
  · rw [if_neg (fun h => c_2 ((lg_cmp_eq _ _).mpr h))] at hf
    refine lv_aload_n hx hb dX7_putTerm_77 rfl (lv_at hl 0 rfl) ?_
    refine lv_bipush (v := (47 : Int32)) hx hb dX7_putTerm_78 (by decide) ?_
    obtain ⟨r_3, hr_3, hf⟩ := obd hf
    refine cWvV (As := [.int (47 : Int32)]) (rest := []) (W1 := ((wMd cA qM r_3))) ⟨hx, hb, hml, hown, hts⟩ (m_X7_put l G cA qM r_1 (47 : Int32) r_3 hr_3) (cw_X7_put hts wi_818 ⟨Nat.le_of_ble_eq_true rfl, Nat.le_of_ble_eq_true rfl⟩) hK hP hD hS [0, 1, 2, 3, 4] [5, 6, 7, 8, 9] rfl rfl rfl (by decide) rfl va_Pnil dj_nil (va_recv hK.1 hP (ci := 5) (q0 := 0) rfl rfl) rfl hl.1 rfl (Nat.le_of_ble_eq_true rfl) dX7_putTerm_80 ⟨Nat.zero_le _, Nat.zero_le _⟩ (fun H locs hP hD hS => ?_)
    refine lv_aload_n hx hb dX7_putTerm_83 rfl (lv_at hl 0 rfl) ?_
    refine lv_lload hx hb dX7_putTerm_84 (lv_at hl 3 rfl) ?_
    obtain ⟨r_4, hr_4, hf⟩ := obd hf
    refine cWvV (As := [.long x5]) (rest := []) (W1 := ((wMd cA qM r_4))) ⟨hx, hb, hml, hown, hts⟩ (m_X7_putNumber l G cA qM r_3 x5 r_4 hr_4) (cw_X7_putNumber hts wi_822 ⟨Nat.le_of_ble_eq_true rfl, Nat.le_of_ble_eq_true rfl⟩) hK hP hD hS [0, 1, 2, 3, 4] [5, 6, 7, 8, 9] rfl rfl rfl (by decide) rfl va_Pnil dj_nil (va_recv hK.1 hP (ci := 5) (q0 := 0) rfl rfl) rfl hl.1 rfl (Nat.le_of_ble_eq_true rfl) dX7_putTerm_86 ⟨Nat.zero_le _, Nat.zero_le _⟩ (fun H locs hP hD hS => ?_)
    exact b_X7_putTerm_89 qM   C0  r_4 x1 x2 H locs ls hP hD hS (lv_sub hl [0, 1, 2] rfl) hf
def f_X7_putTerm_40 (zM : MdS) (x1 : Int32) (x2 : Int32) (x5 : Int64) (v0 : Int64) : Option (MdS) := if ¬ v0 = (1 : Int64) then f_X7_putTerm_64  zM x1 x2 x5 v0 else if ¬ x5 = (1 : Int64) then f_X7_putTerm_64  zM x1 x2 x5 v0 else if ¬ x1 = 0 then f_X7_putTerm_89  zM x1 x2 else if ¬ x2 = 0 then f_X7_putTerm_89  zM x1 x2 else f_X7_putTerm_64  zM x1 x2 x5 v0
set_option maxHeartbeats 4000000 in
set_option maxRecDepth 100000 in
theorem b_X7_putTerm_40 {p : Program} {l : Launch} {e : Env} {s : State} {m : MethodId} {args : Array Value} {below : List Frame} {meth : Method} {c : Code} {G : va_G} {cA : Nat → ClassId} {W9 : va_W} (qM : Nat → Nat) (C0 : Amb p s m args meth c cX7_putTerm RX7 9 none G cA (adr W9) []) {res : MdS} : ∀ (zM : MdS) (x1 : Int32) (x2 : Int32) (x5 : Int64) (v0 : Int64) (H : Heap) (locs : List Loc) (ls : Array Slot), va_P G vwCl ((wMd cA qM zM)) H → va_D (adr W9) ((wMd cA qM zM)) → va_S (adr W9) s.heap H locs → lv_has ls 9 [(0, .ref (qM 0)), (1, .int x1), (2, .int x2), (5, .long x5)] → f_X7_putTerm_40 zM x1 x2 x5 v0 = some res → W p l e rm_X7_putTerm s m args below meth c H locs 0 0 (MQ below (qWv G W9 ((wMd cA qM res))) args s 0 0 (adr W9)) (F0 m 40 ls [.long v0]) := by
  obtain ⟨hx, hb, hr, hml, hown, hts, hlocks, hK, hR, hRA⟩ := id C0
  intro zM x1 x2 x5 v0 H locs ls hP hD hS hl hf
  unfold f_X7_putTerm_40 at hf
  refine lv_lstore (lv' := [(7, .long v0), (0, .ref (qM 0)), (1, .int x1), (2, .int x2), (5, .long x5)]) hx hb dX7_putTerm_40 hl (by decide) rfl (fun ls hl => ?_)
  refine lv_lload hx hb dX7_putTerm_42 (lv_at hl 0 rfl) ?_
  refine lv_lconst (v := (1 : Int64)) hx hb dX7_putTerm_44 (by decide) ?_
  refine W.lcmp hx hb dX7_putTerm_45 ?_
  refine lv_if_ne (tgt := 64) hx hb dX7_putTerm_46 (by decide) (fun c_1 => ?_) (fun c_1 => ?_)
  · rw [if_pos (fun h => c_1 ((lg_cmp_eq _ _).mpr h))] at hf
    exact b_X7_putTerm_64 qM   C0  zM x1 x2 x5 v0 H locs ls hP hD hS (lv_sub hl [1, 2, 3, 4, 0] rfl) hf
  · rw [if_neg (fun h => h ((lg_cmp_eq _ _).mp c_1))] at hf
    refine lv_lload hx hb dX7_putTerm_49 (lv_at hl 4 rfl) ?_
    refine lv_lconst (v := (1 : Int64)) hx hb dX7_putTerm_51 (by decide) ?_
    refine W.lcmp hx hb dX7_putTerm_52 ?_
    refine lv_if_ne (tgt := 64) hx hb dX7_putTerm_53 (by decide) (fun c_2 => ?_) (fun c_2 => ?_)
    · rw [if_pos (fun h => c_2 ((lg_cmp_eq _ _).mpr h))] at hf
      exact b_X7_putTerm_64 qM   C0  zM x1 x2 x5 v0 H locs ls hP hD hS (lv_sub hl [1, 2, 3, 4, 0] rfl) hf
    · rw [if_neg (fun h => h ((lg_cmp_eq _ _).mp c_2))] at hf
      refine lv_iload_n hx hb dX7_putTerm_56 rfl (lv_at hl 2 rfl) ?_
      refine lv_if_ne (tgt := 89) hx hb dX7_putTerm_57 (by decide) (fun c_3 => ?_) (fun c_3 => ?_)
      · rw [if_pos (c_3)] at hf
        exact b_X7_putTerm_89 qM   C0  zM x1 x2 H locs ls hP hD hS (lv_sub hl [1, 2, 3] rfl) hf
      · rw [if_neg (not_not_intro c_3)] at hf
        refine lv_iload_n hx hb dX7_putTerm_60 rfl (lv_at hl 3 rfl) ?_
        refine lv_if_ne (tgt := 89) hx hb dX7_putTerm_61 (by decide) (fun c_4 => ?_) (fun c_4 => ?_)
        · rw [if_pos (c_4)] at hf
          exact b_X7_putTerm_89 qM   C0  zM x1 x2 H locs ls hP hD hS (lv_sub hl [1, 2, 3] rfl) hf
        · rw [if_neg (not_not_intro c_4)] at hf
          exact b_X7_putTerm_64 qM   C0  zM x1 x2 x5 v0 H locs ls hP hD hS (lv_sub hl [1, 2, 3, 4, 0] rfl) hf
def f_X7_putTerm_28 (zM : MdS) (x1 : Int32) (x2 : Int32) (x3 : Int64) (x5 : Int64) : Option (MdS) := if (0 : Int64) ≤ x3 then f_X7_putTerm_40  zM x1 x2 x5 x3 else f_X7_putTerm_40  zM x1 x2 x5 (-x3)
set_option maxHeartbeats 4000000 in
set_option maxRecDepth 100000 in
theorem b_X7_putTerm_28 {p : Program} {l : Launch} {e : Env} {s : State} {m : MethodId} {args : Array Value} {below : List Frame} {meth : Method} {c : Code} {G : va_G} {cA : Nat → ClassId} {W9 : va_W} (qM : Nat → Nat) (C0 : Amb p s m args meth c cX7_putTerm RX7 9 none G cA (adr W9) []) {res : MdS} : ∀ (zM : MdS) (x1 : Int32) (x2 : Int32) (x3 : Int64) (x5 : Int64) (H : Heap) (locs : List Loc) (ls : Array Slot), va_P G vwCl ((wMd cA qM zM)) H → va_D (adr W9) ((wMd cA qM zM)) → va_S (adr W9) s.heap H locs → lv_has ls 9 [(0, .ref (qM 0)), (1, .int x1), (2, .int x2), (3, .long x3), (5, .long x5)] → f_X7_putTerm_28 zM x1 x2 x3 x5 = some res → W p l e rm_X7_putTerm s m args below meth c H locs 0 0 (MQ below (qWv G W9 ((wMd cA qM res))) args s 0 0 (adr W9)) (F0 m 28 ls []) := by
  obtain ⟨hx, hb, hr, hml, hown, hts, hlocks, hK, hR, hRA⟩ := id C0
  intro zM x1 x2 x3 x5 H locs ls hP hD hS hl hf
  unfold f_X7_putTerm_28 at hf
  refine lv_lload_n hx hb dX7_putTerm_28 rfl (lv_at hl 3 rfl) ?_
  refine lv_lconst (v := (0 : Int64)) hx hb dX7_putTerm_29 (by decide) ?_
  refine W.lcmp hx hb dX7_putTerm_30 ?_
  refine lv_if_ge (tgt := 39) hx hb dX7_putTerm_31 (by decide) (fun c_1 => ?_) (fun c_1 => ?_)
  · rw [if_pos ((lg_cmp_ge _ _).mp c_1)] at hf
    refine lv_lload_n hx hb dX7_putTerm_39 rfl (lv_at hl 3 rfl) ?_
    exact b_X7_putTerm_40 qM   C0  zM x1 x2 x5 x3 H locs ls hP hD hS (lv_sub hl [0, 1, 2, 4] rfl) hf
  · rw [if_neg (fun h => c_1 ((lg_cmp_ge _ _).mpr h))] at hf
    refine lv_lload_n hx hb dX7_putTerm_34 rfl (lv_at hl 3 rfl) ?_
    refine lv_lneg hx hb dX7_putTerm_35 ?_
    refine lv_goto (tgt := 40) hx hb dX7_putTerm_36 (by decide) ?_
    exact b_X7_putTerm_40 qM   C0  zM x1 x2 x5 (-x3) H locs ls hP hD hS (lv_sub hl [0, 1, 2, 4] rfl) hf
def f_X7_putTerm (zM : MdS) (a1 : Int32) (a2 : Int32) (a3 : Int64) (a5 : Int64) : Option (MdS) := if (0 : Int64) ≤ a3 then if (gM_outSize zM) ≤ 0 then f_X7_putTerm_28  zM a1 a2 a3 a5 else (f_X7_put zM (43 : Int32)).bind fun r_3 => f_X7_putTerm_28  r_3 a1 a2 a3 a5 else (f_X7_put zM (45 : Int32)).bind fun r_4 => f_X7_putTerm_28  r_4 a1 a2 a3 a5
set_option maxHeartbeats 4000000 in
set_option maxRecDepth 100000 in
theorem b_X7_putTerm_0 {p : Program} {l : Launch} {e : Env} {s : State} {m : MethodId} {args : Array Value} {below : List Frame} {meth : Method} {c : Code} {G : va_G} {cA : Nat → ClassId} {W9 : va_W} (qM : Nat → Nat) (C0 : Amb p s m args meth c cX7_putTerm RX7 9 none G cA (adr W9) []) {res : MdS} : ∀ (zM : MdS) (a1 : Int32) (a2 : Int32) (a3 : Int64) (a5 : Int64) (H : Heap) (locs : List Loc) (ls : Array Slot), va_P G vwCl ((wMd cA qM zM)) H → va_D (adr W9) ((wMd cA qM zM)) → va_S (adr W9) s.heap H locs → lv_has ls 9 [(0, .ref (qM 0)), (1, .int a1), (2, .int a2), (3, .long a3), (5, .long a5)] → f_X7_putTerm zM a1 a2 a3 a5 = some res → W p l e rm_X7_putTerm s m args below meth c H locs 0 0 (MQ below (qWv G W9 ((wMd cA qM res))) args s 0 0 (adr W9)) (F0 m 0 ls []) := by
  obtain ⟨hx, hb, hr, hml, hown, hts, hlocks, hK, hR, hRA⟩ := id C0
  intro zM a1 a2 a3 a5 H locs ls hP hD hS hl hf
  unfold f_X7_putTerm at hf
  refine lv_lload_n hx hb dX7_putTerm_0 rfl (lv_at hl 3 rfl) ?_
  refine lv_lconst (v := (0 : Int64)) hx hb dX7_putTerm_1 (by decide) ?_
  refine W.lcmp hx hb dX7_putTerm_2 ?_
  refine lv_if_ge (tgt := 15) hx hb dX7_putTerm_3 (by decide) (fun c_1 => ?_) (fun c_1 => ?_)
  · rw [if_pos ((lg_cmp_ge _ _).mp c_1)] at hf
    refine lv_aload_n hx hb dX7_putTerm_15 rfl (lv_at hl 0 rfl) ?_
    refine va_get (D := G) (ci := 5) (v := .int (gM_outSize zM)) (C := RX7) (T := TX7) (N := 13) hx hb hts fin_X7 hown hK.1 hP 0 rfl rfl 4 (by decide) (hts _ wi_675) (fun _ h9 => h9) rfl dX7_putTerm_16 ?_
    refine lv_if_le (tgt := 28) hx hb dX7_putTerm_19 (by decide) (fun c_2 => ?_) (fun c_2 => ?_)
    · rw [if_pos (c_2)] at hf
      exact b_X7_putTerm_28 qM   C0  zM a1 a2 a3 a5 H locs ls hP hD hS (lv_sub hl [0, 1, 2, 3, 4] rfl) hf
    · rw [if_neg (c_2)] at hf
      refine lv_aload_n hx hb dX7_putTerm_22 rfl (lv_at hl 0 rfl) ?_
      refine lv_bipush (v := (43 : Int32)) hx hb dX7_putTerm_23 (by decide) ?_
      obtain ⟨r_3, hr_3, hf⟩ := obd hf
      refine cWvV (As := [.int (43 : Int32)]) (rest := []) (W1 := ((wMd cA qM r_3))) ⟨hx, hb, hml, hown, hts⟩ (m_X7_put l G cA qM zM (43 : Int32) r_3 hr_3) (cw_X7_put hts wi_818 ⟨Nat.le_of_ble_eq_true rfl, Nat.le_of_ble_eq_true rfl⟩) hK hP hD hS [0, 1, 2, 3, 4] [5, 6, 7, 8, 9] rfl rfl rfl (by decide) rfl va_Pnil dj_nil (va_recv hK.1 hP (ci := 5) (q0 := 0) rfl rfl) rfl hl.1 rfl (Nat.le_of_ble_eq_true rfl) dX7_putTerm_25 ⟨Nat.zero_le _, Nat.zero_le _⟩ (fun H locs hP hD hS => ?_)
      exact b_X7_putTerm_28 qM   C0  r_3 a1 a2 a3 a5 H locs ls hP hD hS (lv_sub hl [0, 1, 2, 3, 4] rfl) hf
  · rw [if_neg (fun h => c_1 ((lg_cmp_ge _ _).mpr h))] at hf
    refine lv_aload_n hx hb dX7_putTerm_6 rfl (lv_at hl 0 rfl) ?_
    refine lv_bipush (v := (45 : Int32)) hx hb dX7_putTerm_7 (by decide) ?_
    obtain ⟨r_4, hr_4, hf⟩ := obd hf
    refine cWvV (As := [.int (45 : Int32)]) (rest := []) (W1 := ((wMd cA qM r_4))) ⟨hx, hb, hml, hown, hts⟩ (m_X7_put l G cA qM zM (45 : Int32) r_4 hr_4) (cw_X7_put hts wi_818 ⟨Nat.le_of_ble_eq_true rfl, Nat.le_of_ble_eq_true rfl⟩) hK hP hD hS [0, 1, 2, 3, 4] [5, 6, 7, 8, 9] rfl rfl rfl (by decide) rfl va_Pnil dj_nil (va_recv hK.1 hP (ci := 5) (q0 := 0) rfl rfl) rfl hl.1 rfl (Nat.le_of_ble_eq_true rfl) dX7_putTerm_9 ⟨Nat.zero_le _, Nat.zero_le _⟩ (fun H locs hP hD hS => ?_)
    refine lv_goto (tgt := 28) hx hb dX7_putTerm_12 (by decide) ?_
    exact b_X7_putTerm_28 qM   C0  r_4 a1 a2 a3 a5 H locs ls hP hD hS (lv_sub hl [0, 1, 2, 3, 4] rfl) hf

set_option maxRecDepth 100000 in
theorem m_X7_putTerm (l : Launch) (G : va_G) (cA : Nat → ClassId) (qM : Nat → Nat) (zM : MdS) (a1 : Int32) (a2 : Int32) (a3 : Int64) (a5 : Int64) (res : MdS) (hf : f_X7_putTerm zM a1 a2 a3 a5 = some res) : MWv l yX7_putTerm (.code yX7_putTerm cX7_putTerm 9 none :: wd) rm_X7_putTerm G cA [.ref (qM 0), .int a1, .int a2, .long a3, .long a5] ((wMd cA qM zM)) [] ((wMd cA qM res)) := by
  refine Met.ofW (cc := cX7_putTerm) (maxL := 9) (ret := none) (by decide) rfl ?_
  intro p e s m args below meth c s₁ B hml hv
  obtain ⟨rfl, hK, hP, hD0, hR, hRA⟩ := hv
  have C0 : Amb p s m ([.ref (qM 0), .int a1, .int a2, .long a3, .long a5] : List Value).toArray meth c cX7_putTerm RX7 9 none G cA (adr ((wMd cA qM zM))) [] := ⟨B.exec, B.bytes, B.returns, hml, findClass_of_methodNamed B.named, fun w h => atoms_spec (ws := (.code yX7_putTerm cX7_putTerm 9 none :: wd)) B.pre w (List.mem_cons_of_mem _ h), B.notSynchronized, hK, hR, hRA⟩
  have hl := lv_entry ([.ref (qM 0), .int a1, .int a2, .long a3, .long a5]) (n := 9) (Nat.le_of_ble_eq_true rfl)
  rw [lg_entry_eq]
  generalize (lg_sl ([.ref (qM 0), .int a1, .int a2, .long a3, .long a5]) ++ List.replicate (9 - (lg_sl ([.ref (qM 0), .int a1, .int a2, .long a3, .long a5])).length) Slot.unset).toArray = ls at hl ⊢
  have hl : lv_has ls 9 [(0, .ref (qM 0)), (1, .int a1), (2, .int a2), (3, .long a3), (5, .long a5)] := hl
  exact b_X7_putTerm_0 (W9 := ((wMd cA qM zM))) qM   C0 zM a1 a2 a3 a5 s.heap [] ls hP (adr.self hD0) va_S.rf hl hf
theorem cw_X7_putTerm {R : Room} {s : State} {args : Array Value} {own : String} {index : Nat} (ht : ∀ w ∈ wd, w.before args s = true) (hlink : Cond.methodLink own index yX7_putTerm ∈ wd) (hR : rm_X7_putTerm.frames + 1 ≤ R.frames ∧ 8 + (9 + 11) + rm_X7_putTerm.locals ≤ R.locals) : CallW R s args own RX7 index yX7_putTerm cX7_putTerm 9 none (.code yX7_putTerm cX7_putTerm 9 none :: wd) rm_X7_putTerm 0 0 4 := cwV9 4 ht wi_817 wi_816 wi_44 wi_60 hlink (by decide +kernel) rfl rfl hR
def rm_X7_write : Room := { frames := 4, cells := 0, slots := 0, locals := 99 }
def f_X7_write_92 (kb_28 : MdS → Int32 → Int32 → Option (Int32 × MdS)) (kb_37 : MdS → Int32 → Int32 → Int32 → Option (Int32 × MdS)) (zM : MdS) (x1 : Int32) (x2 : Int32) (x3 : Int32) : Option (Int32 × MdS) := kb_37 zM x1 x2 (x3 + (-1))
set_option maxHeartbeats 4000000 in
set_option maxRecDepth 100000 in
theorem b_X7_write_92 {p : Program} {l : Launch} {e : Env} {s : State} {m : MethodId} {args : Array Value} {below : List Frame} {meth : Method} {c : Code} {G : va_G} {cA : Nat → ClassId} {W9 : va_W} (qM : Nat → Nat) (C0 : Amb p s m args meth c cX7_write RX7 5 (some .int) G cA (adr W9) []) {res : Int32 × MdS} (kb_28 : MdS → Int32 → Int32 → Option (Int32 × MdS)) (hkb_28 : ∀ (zM : MdS) (x1 : Int32) (x2 : Int32) (H : Heap) (locs : List Loc) (ls : Array Slot), va_P G vwCl ((wMd cA qM zM)) H → va_D (adr W9) ((wMd cA qM zM)) → va_S (adr W9) s.heap H locs → lv_has ls 5 [(0, .ref (qM 0)), (1, .int x1), (2, .int x2)] → kb_28 zM x1 x2 = some res → W p l e rm_X7_write s m args below meth c H locs 0 0 (MQ below (qWi G W9 ((wMd cA qM res.2)) res.1) args s 0 0 (adr W9)) (F0 m 28 ls [])) (kb_37 : MdS → Int32 → Int32 → Int32 → Option (Int32 × MdS)) (hkb_37 : ∀ (zM : MdS) (x1 : Int32) (x2 : Int32) (x3 : Int32) (H : Heap) (locs : List Loc) (ls : Array Slot), va_P G vwCl ((wMd cA qM zM)) H → va_D (adr W9) ((wMd cA qM zM)) → va_S (adr W9) s.heap H locs → lv_has ls 5 [(0, .ref (qM 0)), (1, .int x1), (2, .int x2), (3, .int x3)] → kb_37 zM x1 x2 x3 = some res → W p l e rm_X7_write s m args below meth c H locs 0 0 (MQ below (qWi G W9 ((wMd cA qM res.2)) res.1) args s 0 0 (adr W9)) (F0 m 37 ls [])) : ∀ (zM : MdS) (x1 : Int32) (x2 : Int32) (x3 : Int32) (H : Heap) (locs : List Loc) (ls : Array Slot), va_P G vwCl ((wMd cA qM zM)) H → va_D (adr W9) ((wMd cA qM zM)) → va_S (adr W9) s.heap H locs → lv_has ls 5 [(0, .ref (qM 0)), (1, .int x1), (2, .int x2), (3, .int x3)] → f_X7_write_92 kb_28 kb_37 zM x1 x2 x3 = some res → W p l e rm_X7_write s m args below meth c H locs 0 0 (MQ below (qWi G W9 ((wMd cA qM res.2)) res.1) args s 0 0 (adr W9)) (F0 m 92 ls []) := by
  obtain ⟨hx, hb, hr, hml, hown, hts, hlocks, hK, hR, hRA⟩ := id C0
  intro zM x1 x2 x3 H locs ls hP hD hS hl hf
  unfold f_X7_write_92 at hf
  refine lv_iinc (v := (x3 + (-1))) (lv' := [(3, .int (x3 + (-1))), (0, .ref (qM 0)), (1, .int x1), (2, .int x2)]) hx hb dX7_write_92 hl (k := 3) rfl rfl (by decide) rfl (fun ls hl => ?_)
  refine lv_goto (tgt := 37) hx hb dX7_write_95 (by decide) ?_
  exact hkb_37 zM x1 x2 (x3 + (-1)) H locs ls hP hD hS (lv_sub hl [1, 2, 3, 0] rfl) hf
def f_X7_write_37 (kb_28 : MdS → Int32 → Int32 → Option (Int32 × MdS)) : Nat → MdS → Int32 → Int32 → Int32 → Option (Int32 × MdS)
  | 0, _, _, _, _ => none
  | fu + 1, zM, x1, x2, x3 => if x3 ≤ (-13 : Int32) then kb_28 zM x1 (x2 + 1) else (some ((((((1150 : Int32) * x1) + ((25 : Int32) * x2)) + x3) + (12 : Int32)))).bind fun y_2 => if inb y_2 11500 = true then if (gM_up zM y_2.toNatClampNeg) = (0 : Int64) then f_X7_write_92 kb_28 (fun zM_ x1_ x2_ x3_ => f_X7_write_37 kb_28 fu zM_ x1_ x2_ x3_) zM x1 x2 x3 else if inb y_2 11500 = true then if inb y_2 11500 = true then (f_X7_putTerm zM x2 x3 (gM_up zM y_2.toNatClampNeg) (gM_down zM y_2.toNatClampNeg)).bind fun r_7 => f_X7_write_92 kb_28 (fun zM_ x1_ x2_ x3_ => f_X7_write_37 kb_28 fu zM_ x1_ x2_ x3_) r_7 x1 x2 x3 else none else none else none
set_option maxHeartbeats 4000000 in
set_option maxRecDepth 100000 in
theorem b_X7_write_37 {p : Program} {l : Launch} {e : Env} {s : State} {m : MethodId} {args : Array Value} {below : List Frame} {meth : Method} {c : Code} {G : va_G} {cA : Nat → ClassId} {W9 : va_W} (qM : Nat → Nat) (C0 : Amb p s m args meth c cX7_write RX7 5 (some .int) G cA (adr W9) []) {res : Int32 × MdS} (kb_28 : MdS → Int32 → Int32 → Option (Int32 × MdS)) (hkb_28 : ∀ (zM : MdS) (x1 : Int32) (x2 : Int32) (H : Heap) (locs : List Loc) (ls : Array Slot), va_P G vwCl ((wMd cA qM zM)) H → va_D (adr W9) ((wMd cA qM zM)) → va_S (adr W9) s.heap H locs → lv_has ls 5 [(0, .ref (qM 0)), (1, .int x1), (2, .int x2)] → kb_28 zM x1 x2 = some res → W p l e rm_X7_write s m args below meth c H locs 0 0 (MQ below (qWi G W9 ((wMd cA qM res.2)) res.1) args s 0 0 (adr W9)) (F0 m 28 ls [])) : ∀ (fu : Nat) (zM : MdS) (x1 : Int32) (x2 : Int32) (x3 : Int32) (H : Heap) (locs : List Loc) (ls : Array Slot), va_P G vwCl ((wMd cA qM zM)) H → va_D (adr W9) ((wMd cA qM zM)) → va_S (adr W9) s.heap H locs → lv_has ls 5 [(0, .ref (qM 0)), (1, .int x1), (2, .int x2), (3, .int x3)] → f_X7_write_37 kb_28 fu zM x1 x2 x3 = some res → W p l e rm_X7_write s m args below meth c H locs 0 0 (MQ below (qWi G W9 ((wMd cA qM res.2)) res.1) args s 0 0 (adr W9)) (F0 m 37 ls []) := by
  obtain ⟨hx, hb, hr, hml, hown, hts, hlocks, hK, hR, hRA⟩ := id C0
  intro fu
  induction fu with
  | zero =>
    intro zM x1 x2 x3 H locs ls hP hD hS hl hf
    rw [f_X7_write_37] at hf
    cases hf
  | succ fu ih =>
    intro zM x1 x2 x3 H locs ls hP hD hS hl hf
    rw [f_X7_write_37] at hf
    refine lv_iload_n hx hb dX7_write_37 rfl (lv_at hl 3 rfl) ?_
    refine lv_bipush (v := (-13 : Int32)) hx hb dX7_write_38 (by decide) ?_
    refine lv_icmp_le (tgt := 98) hx hb dX7_write_40 (by decide) (fun c_1 => ?_) (fun c_1 => ?_)
    · rw [if_pos (c_1)] at hf
      refine lv_iinc (v := (x2 + 1)) (lv' := [(2, .int (x2 + 1)), (0, .ref (qM 0)), (1, .int x1), (3, .int x3)]) hx hb dX7_write_98 hl (k := 2) rfl rfl (by decide) rfl (fun ls hl => ?_)
      refine lv_goto (tgt := 28) hx hb dX7_write_101 (by decide) ?_
      exact hkb_28 zM x1 (x2 + 1) H locs ls hP hD hS (lv_sub hl [1, 2, 0] rfl) hf
    · rw [if_neg (c_1)] at hf
      refine lv_sipush (v := (1150 : Int32)) hx hb dX7_write_43 (by decide) ?_
      refine lv_iload_n hx hb dX7_write_46 rfl (lv_at hl 1 rfl) ?_
      refine lv_imul hx hb dX7_write_47 ?_
      refine lv_bipush (v := (25 : Int32)) hx hb dX7_write_48 (by decide) ?_
      refine lv_iload_n hx hb dX7_write_50 rfl (lv_at hl 2 rfl) ?_
      refine lv_imul hx hb dX7_write_51 ?_
      refine lv_iadd hx hb dX7_write_52 ?_
      refine lv_iload_n hx hb dX7_write_53 rfl (lv_at hl 3 rfl) ?_
      refine lv_iadd hx hb dX7_write_54 ?_
      refine lv_bipush (v := (12 : Int32)) hx hb dX7_write_55 (by decide) ?_
      refine lv_iadd hx hb dX7_write_57 ?_
      obtain ⟨y_2, hq, hf⟩ := obd hf
      have hy_2 : (((((1150 : Int32) * x1) + ((25 : Int32) * x2)) + x3) + (12 : Int32)) = y_2 := Option.some.inj hq
      rw [hy_2]
      refine lv_istore (lv' := [(4, .int y_2), (0, .ref (qM 0)), (1, .int x1), (2, .int x2), (3, .int x3)]) hx hb dX7_write_58 hl (by decide) rfl (fun ls hl => ?_)
      refine lv_aload_n hx hb dX7_write_60 rfl (lv_at hl 1 rfl) ?_
      refine va_get (D := G) (ci := 5) (v := .ref (qM 3)) (C := RX7) (T := TX7) (N := 13) hx hb hts fin_X7 hown hK.1 hP 0 rfl rfl 6 (by decide) (hts _ wi_677) (fun _ h9 => h9) rfl dX7_write_61 ?_
      refine lv_iload hx hb dX7_write_64 (lv_at hl 0 rfl) ?_
      obtain ⟨hi_3, hf⟩ := oif hf
      refine va_lald hx hb hK.1 hP 3 1 rfl rfl (inb_in hi_3) dX7_write_66 ?_
      refine lv_lconst (v := (0 : Int64)) hx hb dX7_write_67 (by decide) ?_
      refine W.lcmp hx hb dX7_write_68 ?_
      refine lv_if_eq (tgt := 92) hx hb dX7_write_69 (by decide) (fun c_4 => ?_) (fun c_4 => ?_)
      · rw [if_pos ((lg_cmp_eq _ _).mp c_4)] at hf
        exact b_X7_write_92 qM   C0 kb_28 hkb_28 (fun zM_ x1_ x2_ x3_ => f_X7_write_37 kb_28 fu zM_ x1_ x2_ x3_) ih zM x1 x2 x3 H locs ls hP hD hS (lv_sub hl [1, 2, 3, 4] rfl) hf
      · rw [if_neg (fun h => c_4 ((lg_cmp_eq _ _).mpr h))] at hf
        refine lv_aload_n hx hb dX7_write_72 rfl (lv_at hl 1 rfl) ?_
        refine lv_iload_n hx hb dX7_write_73 rfl (lv_at hl 3 rfl) ?_
        refine lv_iload_n hx hb dX7_write_74 rfl (lv_at hl 4 rfl) ?_
        refine lv_aload_n hx hb dX7_write_75 rfl (lv_at hl 1 rfl) ?_
        refine va_get (D := G) (ci := 5) (v := .ref (qM 3)) (C := RX7) (T := TX7) (N := 13) hx hb hts fin_X7 hown hK.1 hP 0 rfl rfl 6 (by decide) (hts _ wi_677) (fun _ h9 => h9) rfl dX7_write_76 ?_
        refine lv_iload hx hb dX7_write_79 (lv_at hl 0 rfl) ?_
        obtain ⟨hi_5, hf⟩ := oif hf
        refine va_lald hx hb hK.1 hP 3 1 rfl rfl (inb_in hi_5) dX7_write_81 ?_
        refine lv_aload_n hx hb dX7_write_82 rfl (lv_at hl 1 rfl) ?_
        refine va_get (D := G) (ci := 5) (v := .ref (qM 4)) (C := RX7) (T := TX7) (N := 13) hx hb hts fin_X7 hown hK.1 hP 0 rfl rfl 7 (by decide) (hts _ wi_678) (fun _ h9 => h9) rfl dX7_write_83 ?_
        refine lv_iload hx hb dX7_write_86 (lv_at hl 0 rfl) ?_
        obtain ⟨hi_6, hf⟩ := oif hf
        refine va_lald hx hb hK.1 hP 4 1 rfl rfl (inb_in hi_6) dX7_write_88 ?_
        obtain ⟨r_7, hr_7, hf⟩ := obd hf
        refine cWvV (As := [.int x2, .int x3, .long (gM_up zM y_2.toNatClampNeg), .long (gM_down zM y_2.toNatClampNeg)]) (rest := []) (W1 := ((wMd cA qM r_7))) ⟨hx, hb, hml, hown, hts⟩ (m_X7_putTerm l G cA qM zM x2 x3 (gM_up zM y_2.toNatClampNeg) (gM_down zM y_2.toNatClampNeg) r_7 hr_7) (cw_X7_putTerm hts wi_814 ⟨Nat.le_of_ble_eq_true rfl, Nat.le_of_ble_eq_true rfl⟩) hK hP hD hS [0, 1, 2, 3, 4] [5, 6, 7, 8, 9] rfl rfl rfl (by decide) rfl va_Pnil dj_nil (va_recv hK.1 hP (ci := 5) (q0 := 0) rfl rfl) rfl hl.1 rfl (Nat.le_of_ble_eq_true rfl) dX7_write_89 ⟨Nat.zero_le _, Nat.zero_le _⟩ (fun H locs hP hD hS => ?_)
        exact b_X7_write_92 qM   C0 kb_28 hkb_28 (fun zM_ x1_ x2_ x3_ => f_X7_write_37 kb_28 fu zM_ x1_ x2_ x3_) ih r_7 x1 x2 x3 H locs ls hP hD hS (lv_sub hl [1, 2, 3, 4] rfl) hf
def f_X7_write_28  : Nat → MdS → Int32 → Int32 → Option (Int32 × MdS)
  | 0, _, _, _ => none
  | fu + 1, zM, x1, x2 => if (46 : Int32) ≤ x2 then if ¬ (gM_outSize zM) = 0 then some ((gM_outSize zM), zM) else (f_X7_put zM (48 : Int32)).bind fun r_3 => some ((gM_outSize r_3), r_3) else f_X7_write_37 (fun zM_ x1_ x2_ => f_X7_write_28  fu zM_ x1_ x2_) fuel zM x1 x2 (12 : Int32)
set_option maxHeartbeats 4000000 in
set_option maxRecDepth 100000 in
theorem b_X7_write_28 {p : Program} {l : Launch} {e : Env} {s : State} {m : MethodId} {args : Array Value} {below : List Frame} {meth : Method} {c : Code} {G : va_G} {cA : Nat → ClassId} {W9 : va_W} (qM : Nat → Nat) (C0 : Amb p s m args meth c cX7_write RX7 5 (some .int) G cA (adr W9) []) {res : Int32 × MdS} : ∀ (fu : Nat) (zM : MdS) (x1 : Int32) (x2 : Int32) (H : Heap) (locs : List Loc) (ls : Array Slot), va_P G vwCl ((wMd cA qM zM)) H → va_D (adr W9) ((wMd cA qM zM)) → va_S (adr W9) s.heap H locs → lv_has ls 5 [(0, .ref (qM 0)), (1, .int x1), (2, .int x2)] → f_X7_write_28 fu zM x1 x2 = some res → W p l e rm_X7_write s m args below meth c H locs 0 0 (MQ below (qWi G W9 ((wMd cA qM res.2)) res.1) args s 0 0 (adr W9)) (F0 m 28 ls []) := by
  obtain ⟨hx, hb, hr, hml, hown, hts, hlocks, hK, hR, hRA⟩ := id C0
  intro fu
  induction fu with
  | zero =>
    intro zM x1 x2 H locs ls hP hD hS hl hf
    rw [f_X7_write_28] at hf
    cases hf
  | succ fu ih =>
    intro zM x1 x2 H locs ls hP hD hS hl hf
    rw [f_X7_write_28] at hf
    refine lv_iload_n hx hb dX7_write_28 rfl (lv_at hl 2 rfl) ?_
    refine lv_bipush (v := (46 : Int32)) hx hb dX7_write_29 (by decide) ?_
    refine lv_icmp_ge (tgt := 104) hx hb dX7_write_31 (by decide) (fun c_1 => ?_) (fun c_1 => ?_)
    · rw [if_pos (c_1)] at hf
      refine lv_aload_n hx hb dX7_write_104 rfl (lv_at hl 0 rfl) ?_
      refine va_get (D := G) (ci := 5) (v := .int (gM_outSize zM)) (C := RX7) (T := TX7) (N := 13) hx hb hts fin_X7 hown hK.1 hP 0 rfl rfl 4 (by decide) (hts _ wi_675) (fun _ h9 => h9) rfl dX7_write_105 ?_
      refine lv_if_ne (tgt := 117) hx hb dX7_write_108 (by decide) (fun c_2 => ?_) (fun c_2 => ?_)
      · rw [if_pos (c_2)] at hf
        refine lv_aload_n hx hb dX7_write_117 rfl (lv_at hl 0 rfl) ?_
        refine va_get (D := G) (ci := 5) (v := .int (gM_outSize zM)) (C := RX7) (T := TX7) (N := 13) hx hb hts fin_X7 hown hK.1 hP 0 rfl rfl 4 (by decide) (hts _ wi_675) (fun _ h9 => h9) rfl dX7_write_118 ?_
        cases hf
        exact W.iret hx hb hr (fun t ht hW => ⟨⟨_, (), rfl, rfl, toT ht hP⟩, hS.F ht⟩) hS.2.2 dX7_write_121 hlocks
      · rw [if_neg (not_not_intro c_2)] at hf
        refine lv_aload_n hx hb dX7_write_111 rfl (lv_at hl 0 rfl) ?_
        refine lv_bipush (v := (48 : Int32)) hx hb dX7_write_112 (by decide) ?_
        obtain ⟨r_3, hr_3, hf⟩ := obd hf
        refine cWvV (As := [.int (48 : Int32)]) (rest := []) (W1 := ((wMd cA qM r_3))) ⟨hx, hb, hml, hown, hts⟩ (m_X7_put l G cA qM zM (48 : Int32) r_3 hr_3) (cw_X7_put hts wi_818 ⟨Nat.le_of_ble_eq_true rfl, Nat.le_of_ble_eq_true rfl⟩) hK hP hD hS [0, 1, 2, 3, 4] [5, 6, 7, 8, 9] rfl rfl rfl (by decide) rfl va_Pnil dj_nil (va_recv hK.1 hP (ci := 5) (q0 := 0) rfl rfl) rfl hl.1 rfl (Nat.le_of_ble_eq_true rfl) dX7_write_114 ⟨Nat.zero_le _, Nat.zero_le _⟩ (fun H locs hP hD hS => ?_)
        refine lv_aload_n hx hb dX7_write_117 rfl (lv_at hl 0 rfl) ?_
        refine va_get (D := G) (ci := 5) (v := .int (gM_outSize r_3)) (C := RX7) (T := TX7) (N := 13) hx hb hts fin_X7 hown hK.1 hP 0 rfl rfl 4 (by decide) (hts _ wi_675) (fun _ h9 => h9) rfl dX7_write_118 ?_
        cases hf
        exact W.iret hx hb hr (fun t ht hW => ⟨⟨_, (), rfl, rfl, toT ht hP⟩, hS.F ht⟩) hS.2.2 dX7_write_121 hlocks
    · rw [if_neg (c_1)] at hf
      refine lv_bipush (v := (12 : Int32)) hx hb dX7_write_34 (by decide) ?_
      refine lv_istore_n (lv' := [(3, .int (12 : Int32)), (0, .ref (qM 0)), (1, .int x1), (2, .int x2)]) hx hb dX7_write_36 rfl hl (by decide) rfl (fun ls hl => ?_)
      exact b_X7_write_37 qM   C0 (fun zM_ x1_ x2_ => f_X7_write_28  fu zM_ x1_ x2_) ih fuel zM x1 x2 (12 : Int32) H locs ls hP hD hS (lv_sub hl [1, 2, 3, 0] rfl) hf
def f_X7_write_13 (zM : MdS) (x1 : Int32) (v1 : Int32) : Option (Int32 × MdS) := (f_X7_refused zM v1).bind fun r_1 => if r_1.1 = 0 then f_X7_write_28 fuel (uM_outSize r_1.2 (0 : Int32)) x1 (0 : Int32) else some ((0 : Int32), r_1.2)
set_option maxHeartbeats 4000000 in
set_option maxRecDepth 100000 in
theorem b_X7_write_13 {p : Program} {l : Launch} {e : Env} {s : State} {m : MethodId} {args : Array Value} {below : List Frame} {meth : Method} {c : Code} {G : va_G} {cA : Nat → ClassId} {W9 : va_W} (qM : Nat → Nat) (C0 : Amb p s m args meth c cX7_write RX7 5 (some .int) G cA (adr W9) []) {res : Int32 × MdS} : ∀ (zM : MdS) (x1 : Int32) (v1 : Int32) (H : Heap) (locs : List Loc) (ls : Array Slot), va_P G vwCl ((wMd cA qM zM)) H → va_D (adr W9) ((wMd cA qM zM)) → va_S (adr W9) s.heap H locs → lv_has ls 5 [(0, .ref (qM 0)), (1, .int x1)] → f_X7_write_13 zM x1 v1 = some res → W p l e rm_X7_write s m args below meth c H locs 0 0 (MQ below (qWi G W9 ((wMd cA qM res.2)) res.1) args s 0 0 (adr W9)) (F0 m 13 ls [.int v1, .ref (qM 0)]) := by
  obtain ⟨hx, hb, hr, hml, hown, hts, hlocks, hK, hR, hRA⟩ := id C0
  intro zM x1 v1 H locs ls hP hD hS hl hf
  unfold f_X7_write_13 at hf
  obtain ⟨r_1, hr_1, hf⟩ := obd hf
  refine cWiV (As := [.int v1]) (rest := []) (W1 := ((wMd cA qM r_1.2))) ⟨hx, hb, hml, hown, hts⟩ (m_X7_refused l G cA qM zM v1 r_1 hr_1) (cw_X7_refused hts wi_723 ⟨Nat.le_of_ble_eq_true rfl, Nat.le_of_ble_eq_true rfl⟩) hK hP hD hS [0, 1, 2, 3, 4] [5, 6, 7, 8, 9] rfl rfl rfl (by decide) rfl va_Pnil dj_nil (va_recv hK.1 hP (ci := 5) (q0 := 0) rfl rfl) rfl hl.1 rfl (Nat.le_of_ble_eq_true rfl) dX7_write_13 ⟨Nat.zero_le _, Nat.zero_le _⟩ (fun H locs hP hD hS => ?_)
  refine lv_if_eq (tgt := 21) hx hb dX7_write_16 (by decide) (fun c_2 => ?_) (fun c_2 => ?_)
  · rw [if_pos (c_2)] at hf
    refine lv_aload_n hx hb dX7_write_21 rfl (lv_at hl 0 rfl) ?_
    refine lv_iconst (v := 0) hx hb dX7_write_22 (by decide) ?_
    refine va_put (D := G) (ci := 5) (v := .int (0 : Int32)) (ty := .int) (C := RX7) (T := TX7) (N := 13) hx hb hts fin_X7 tyX7 tyX7_ok nmX7 hown hK.1 hP hD hS 0 rfl rfl 4 (by decide) (hts _ wi_675) (fun _ h9 => h9) rfl (by decide +kernel) rfl rfl (Nat.le_of_ble_eq_true rfl) dX7_write_23 (fun H locs hP hD hS => ?_)
    have hP : va_P G vwCl ((wMd cA qM (uM_outSize r_1.2 (0 : Int32)))) H := hP
    have hD : va_D (adr W9) ((wMd cA qM (uM_outSize r_1.2 (0 : Int32)))) := hD
    refine lv_iconst (v := 0) hx hb dX7_write_26 (by decide) ?_
    refine lv_istore_n (lv' := [(2, .int (0 : Int32)), (0, .ref (qM 0)), (1, .int x1)]) hx hb dX7_write_27 rfl hl (by decide) rfl (fun ls hl => ?_)
    exact b_X7_write_28 qM   C0  fuel (uM_outSize r_1.2 (0 : Int32)) x1 (0 : Int32) H locs ls hP hD hS (lv_sub hl [1, 2, 0] rfl) hf
  · rw [if_neg (c_2)] at hf
    refine lv_iconst (v := 0) hx hb dX7_write_19 (by decide) ?_
    cases hf
    exact W.iret hx hb hr (fun t ht hW => ⟨⟨_, (), rfl, rfl, toT ht hP⟩, hS.F ht⟩) hS.2.2 dX7_write_20 hlocks
def f_X7_write (zM : MdS) (a1 : Int32) : Option (Int32 × MdS) := (f_X7_isSlot a1).bind fun r_1 => if r_1 = 0 then f_X7_write_13  zM a1 (1 : Int32) else f_X7_write_13  zM a1 (0 : Int32)
set_option maxHeartbeats 4000000 in
set_option maxRecDepth 100000 in
theorem b_X7_write_0 {p : Program} {l : Launch} {e : Env} {s : State} {m : MethodId} {args : Array Value} {below : List Frame} {meth : Method} {c : Code} {G : va_G} {cA : Nat → ClassId} {W9 : va_W} (qM : Nat → Nat) (C0 : Amb p s m args meth c cX7_write RX7 5 (some .int) G cA (adr W9) []) {res : Int32 × MdS} : ∀ (zM : MdS) (a1 : Int32) (H : Heap) (locs : List Loc) (ls : Array Slot), va_P G vwCl ((wMd cA qM zM)) H → va_D (adr W9) ((wMd cA qM zM)) → va_S (adr W9) s.heap H locs → lv_has ls 5 [(0, .ref (qM 0)), (1, .int a1)] → f_X7_write zM a1 = some res → W p l e rm_X7_write s m args below meth c H locs 0 0 (MQ below (qWi G W9 ((wMd cA qM res.2)) res.1) args s 0 0 (adr W9)) (F0 m 0 ls []) := by
  obtain ⟨hx, hb, hr, hml, hown, hts, hlocks, hK, hR, hRA⟩ := id C0
  intro zM a1 H locs ls hP hD hS hl hf
  unfold f_X7_write at hf
  refine lv_aload_n hx hb dX7_write_0 rfl (lv_at hl 0 rfl) ?_
  refine lv_iload_n hx hb dX7_write_1 rfl (lv_at hl 1 rfl) ?_
  obtain ⟨r_1, hr_1, hf⟩ := obd hf
  refine cRiS (As := [.int a1]) (rest := [.ref (qM 0)]) ⟨hx, hb, hml, hown, hts⟩ (m_X7_isSlot l G cA a1 r_1 hr_1) (cw_X7_isSlot hts wi_735 ⟨Nat.le_of_ble_eq_true rfl, Nat.le_of_ble_eq_true rfl⟩) hK va_Pnil rfl hl.1 rfl (Nat.le_of_ble_eq_true rfl) dX7_write_2 ⟨Nat.zero_le _, Nat.zero_le _⟩ ?_
  refine lv_if_eq (tgt := 12) hx hb dX7_write_5 (by decide) (fun c_2 => ?_) (fun c_2 => ?_)
  · rw [if_pos (c_2)] at hf
    refine lv_iconst (v := 1) hx hb dX7_write_12 (by decide) ?_
    exact b_X7_write_13 qM   C0  zM a1 (1 : Int32) H locs ls hP hD hS (lv_sub hl [0, 1] rfl) hf
  · rw [if_neg (c_2)] at hf
    refine lv_iconst (v := 0) hx hb dX7_write_8 (by decide) ?_
    refine lv_goto (tgt := 13) hx hb dX7_write_9 (by decide) ?_
    exact b_X7_write_13 qM   C0  zM a1 (0 : Int32) H locs ls hP hD hS (lv_sub hl [0, 1] rfl) hf

set_option maxRecDepth 100000 in
theorem m_X7_write (l : Launch) (G : va_G) (cA : Nat → ClassId) (qM : Nat → Nat) (zM : MdS) (a1 : Int32) (res : Int32 × MdS) (hf : f_X7_write zM a1 = some res) : MWi l yX7_write (.code yX7_write cX7_write 5 (some .int) :: wd) rm_X7_write G cA [.ref (qM 0), .int a1] ((wMd cA qM zM)) [] ((wMd cA qM res.2)) res.1 := by
  refine Met.ofW (cc := cX7_write) (maxL := 5) (ret := (some .int)) (by decide) rfl ?_
  intro p e s m args below meth c s₁ B hml hv
  obtain ⟨rfl, hK, hP, hD0, hR, hRA⟩ := hv
  have C0 : Amb p s m ([.ref (qM 0), .int a1] : List Value).toArray meth c cX7_write RX7 5 (some .int) G cA (adr ((wMd cA qM zM))) [] := ⟨B.exec, B.bytes, B.returns, hml, findClass_of_methodNamed B.named, fun w h => atoms_spec (ws := (.code yX7_write cX7_write 5 (some .int) :: wd)) B.pre w (List.mem_cons_of_mem _ h), B.notSynchronized, hK, hR, hRA⟩
  have hl := lv_entry ([.ref (qM 0), .int a1]) (n := 5) (Nat.le_of_ble_eq_true rfl)
  rw [lg_entry_eq]
  generalize (lg_sl ([.ref (qM 0), .int a1]) ++ List.replicate (5 - (lg_sl ([.ref (qM 0), .int a1])).length) Slot.unset).toArray = ls at hl ⊢
  have hl : lv_has ls 5 [(0, .ref (qM 0)), (1, .int a1)] := hl
  exact b_X7_write_0 (W9 := ((wMd cA qM zM))) qM   C0 zM a1 s.heap [] ls hP (adr.self hD0) va_S.rf hl hf
theorem cw_X7_write {R : Room} {s : State} {args : Array Value} {own : String} {index : Nat} (ht : ∀ w ∈ wd, w.before args s = true) (hlink : Cond.methodLink own index yX7_write ∈ wd) (hR : rm_X7_write.frames + 1 ≤ R.frames ∧ 8 + (5 + 11) + rm_X7_write.locals ≤ R.locals) : CallW R s args own RX7 index yX7_write cX7_write 5 (some .int) (.code yX7_write cX7_write 5 (some .int) :: wd) rm_X7_write 0 0 1 := cwV9 1 ht wi_813 wi_811 wi_812 wi_60 hlink (by decide +kernel) rfl rfl hR
def rm_X7_output : Room := { frames := 0, cells := 0, slots := 0, locals := 0 }
def f_X7_output (zM : MdS) (a1 : Int32) : Option (Int32 × MdS) := if a1 < 0 then if cb (32 : Int32) = true then some ((32 : Int32), (uM_refusal zM (0 : Int32))) else none else if (gM_outSize (uM_refusal zM (0 : Int32))) ≤ a1 then if cb (32 : Int32) = true then some ((32 : Int32), (uM_refusal zM (0 : Int32))) else none else if inb a1 1400 = true then if cb (gM_out (uM_refusal zM (0 : Int32)) a1.toNatClampNeg) = true then some ((gM_out (uM_refusal zM (0 : Int32)) a1.toNatClampNeg), (uM_refusal zM (0 : Int32))) else none else none
set_option maxHeartbeats 4000000 in
set_option maxRecDepth 100000 in
theorem b_X7_output_0 {p : Program} {l : Launch} {e : Env} {s : State} {m : MethodId} {args : Array Value} {below : List Frame} {meth : Method} {c : Code} {G : va_G} {cA : Nat → ClassId} {W9 : va_W} (qM : Nat → Nat) (C0 : Amb p s m args meth c cX7_output RX7 2 (some .char) G cA (adr W9) []) {res : Int32 × MdS} : ∀ (zM : MdS) (a1 : Int32) (H : Heap) (locs : List Loc) (ls : Array Slot), va_P G vwCl ((wMd cA qM zM)) H → va_D (adr W9) ((wMd cA qM zM)) → va_S (adr W9) s.heap H locs → lv_has ls 2 [(0, .ref (qM 0)), (1, .int a1)] → f_X7_output zM a1 = some res → W p l e rm_X7_output s m args below meth c H locs 0 0 (MQ below (qWi G W9 ((wMd cA qM res.2)) res.1) args s 0 0 (adr W9)) (F0 m 0 ls []) := by
  obtain ⟨hx, hb, hr, hml, hown, hts, hlocks, hK, hR, hRA⟩ := id C0
  intro zM a1 H locs ls hP hD hS hl hf
  unfold f_X7_output at hf
  refine lv_aload_n hx hb dX7_output_0 rfl (lv_at hl 0 rfl) ?_
  refine lv_iconst (v := 0) hx hb dX7_output_1 (by decide) ?_
  refine va_put (D := G) (ci := 5) (v := .int (0 : Int32)) (ty := .int) (C := RX7) (T := TX7) (N := 13) hx hb hts fin_X7 tyX7 tyX7_ok nmX7 hown hK.1 hP hD hS 0 rfl rfl 0 (by decide) (hts _ wi_671) (fun _ h9 => h9) rfl (by decide +kernel) rfl rfl (Nat.le_of_ble_eq_true rfl) dX7_output_2 (fun H locs hP hD hS => ?_)
  have hP : va_P G vwCl ((wMd cA qM (uM_refusal zM (0 : Int32)))) H := hP
  have hD : va_D (adr W9) ((wMd cA qM (uM_refusal zM (0 : Int32)))) := hD
  refine lv_iload_n hx hb dX7_output_5 rfl (lv_at hl 1 rfl) ?_
  refine lv_if_lt (tgt := 26) hx hb dX7_output_6 (by decide) (fun c_1 => ?_) (fun c_1 => ?_)
  · rw [if_pos (c_1)] at hf
    refine lv_bipush (v := (32 : Int32)) hx hb dX7_output_26 (by decide) ?_
    obtain ⟨hz_2, hf⟩ := oif hf
    cases hf
    exact W.zret hx hb hr (cb_n hz_2) (fun t ht hW => ⟨⟨_, (), rfl, rfl, toT ht hP⟩, hS.F ht⟩) hS.2.2 dX7_output_28 hlocks
  · rw [if_neg (c_1)] at hf
    refine lv_iload_n hx hb dX7_output_9 rfl (lv_at hl 1 rfl) ?_
    refine lv_aload_n hx hb dX7_output_10 rfl (lv_at hl 0 rfl) ?_
    refine va_get (D := G) (ci := 5) (v := .int (gM_outSize (uM_refusal zM (0 : Int32)))) (C := RX7) (T := TX7) (N := 13) hx hb hts fin_X7 hown hK.1 hP 0 rfl rfl 4 (by decide) (hts _ wi_675) (fun _ h9 => h9) rfl dX7_output_11 ?_
    refine lv_icmp_ge (tgt := 26) hx hb dX7_output_14 (by decide) (fun c_3 => ?_) (fun c_3 => ?_)
    · rw [if_pos (c_3)] at hf
      refine lv_bipush (v := (32 : Int32)) hx hb dX7_output_26 (by decide) ?_
      obtain ⟨hz_4, hf⟩ := oif hf
      cases hf
      exact W.zret hx hb hr (cb_n hz_4) (fun t ht hW => ⟨⟨_, (), rfl, rfl, toT ht hP⟩, hS.F ht⟩) hS.2.2 dX7_output_28 hlocks
    · rw [if_neg (c_3)] at hf
      refine lv_aload_n hx hb dX7_output_17 rfl (lv_at hl 0 rfl) ?_
      refine va_get (D := G) (ci := 5) (v := .ref (qM 2)) (C := RX7) (T := TX7) (N := 13) hx hb hts fin_X7 hown hK.1 hP 0 rfl rfl 3 (by decide) (hts _ wi_674) (fun _ h9 => h9) rfl dX7_output_18 ?_
      refine lv_iload_n hx hb dX7_output_21 rfl (lv_at hl 1 rfl) ?_
      obtain ⟨hi_5, hf⟩ := oif hf
      refine va_cald hx hb hK.1 hP 2 2 rfl rfl (inb_in hi_5) dX7_output_22 ?_
      refine lv_goto (tgt := 28) hx hb dX7_output_23 (by decide) ?_
      obtain ⟨hz_6, hf⟩ := oif hf
      cases hf
      exact W.zret hx hb hr (cb_n hz_6) (fun t ht hW => ⟨⟨_, (), rfl, rfl, toT ht hP⟩, hS.F ht⟩) hS.2.2 dX7_output_28 hlocks

set_option maxRecDepth 100000 in
theorem m_X7_output (l : Launch) (G : va_G) (cA : Nat → ClassId) (qM : Nat → Nat) (zM : MdS) (a1 : Int32) (res : Int32 × MdS) (hf : f_X7_output zM a1 = some res) : MWi l yX7_output (.code yX7_output cX7_output 2 (some .char) :: wd) rm_X7_output G cA [.ref (qM 0), .int a1] ((wMd cA qM zM)) [] ((wMd cA qM res.2)) res.1 := by
  refine Met.ofW (cc := cX7_output) (maxL := 2) (ret := (some .char)) (by decide) rfl ?_
  intro p e s m args below meth c s₁ B hml hv
  obtain ⟨rfl, hK, hP, hD0, hR, hRA⟩ := hv
  have C0 : Amb p s m ([.ref (qM 0), .int a1] : List Value).toArray meth c cX7_output RX7 2 (some .char) G cA (adr ((wMd cA qM zM))) [] := ⟨B.exec, B.bytes, B.returns, hml, findClass_of_methodNamed B.named, fun w h => atoms_spec (ws := (.code yX7_output cX7_output 2 (some .char) :: wd)) B.pre w (List.mem_cons_of_mem _ h), B.notSynchronized, hK, hR, hRA⟩
  have hl := lv_entry ([.ref (qM 0), .int a1]) (n := 2) (Nat.le_of_ble_eq_true rfl)
  rw [lg_entry_eq]
  generalize (lg_sl ([.ref (qM 0), .int a1]) ++ List.replicate (2 - (lg_sl ([.ref (qM 0), .int a1])).length) Slot.unset).toArray = ls at hl ⊢
  have hl : lv_has ls 2 [(0, .ref (qM 0)), (1, .int a1)] := hl
  exact b_X7_output_0 (W9 := ((wMd cA qM zM))) qM   C0 zM a1 s.heap [] ls hP (adr.self hD0) va_S.rf hl hf
theorem cw_X7_output {R : Room} {s : State} {args : Array Value} {own : String} {index : Nat} (ht : ∀ w ∈ wd, w.before args s = true) (hlink : Cond.methodLink own index yX7_output ∈ wd) (hR : rm_X7_output.frames + 1 ≤ R.frames ∧ 8 + (2 + 11) + rm_X7_output.locals ≤ R.locals) : CallW R s args own RX7 index yX7_output cX7_output 2 (some .char) (.code yX7_output cX7_output 2 (some .char) :: wd) rm_X7_output 0 0 1 := cwV9 1 ht wi_842 wi_840 wi_841 wi_60 hlink (by decide +kernel) rfl rfl hR
def rm_X7_add : Room := { frames := 3, cells := 0, slots := 0, locals := 68 }
def f_X7_add_238 (kb_116 : MdS → Int32 → Int32 → Int32 → Int32 → Int32 → Option (Int32 × MdS)) (kb_127 : MdS → Int32 → Int32 → Int32 → Int32 → Int32 → Int32 → Option (Int32 × MdS)) (zM : MdS) (x1 : Int32) (x3 : Int32) (x4 : Int32) (x5 : Int32) (x7 : Int32) (x8 : Int32) (x10 : Int64) (v0 : Int64) : Option (Int32 × MdS) := (f_X7_gcd x10 v0).bind fun r_1 => (f_X7_kindOf x7).bind fun r_2 => (f_X7_countOf x7).bind fun r_3 => if ¬ r_1 = 0 then if ¬ r_1 = 0 then (f_X7_addTerm zM (8 : Int32) r_2 r_3 x8 (x10 / r_1) (v0 / r_1)).bind fun r_6 => kb_127 r_6 x1 x3 x4 x5 x7 (x8 + 1) else none else none
set_option maxHeartbeats 4000000 in
set_option maxRecDepth 100000 in
theorem b_X7_add_238 {p : Program} {l : Launch} {e : Env} {s : State} {m : MethodId} {args : Array Value} {below : List Frame} {meth : Method} {c : Code} {G : va_G} {cA : Nat → ClassId} {W9 : va_W} (qM : Nat → Nat) (C0 : Amb p s m args meth c cX7_add RX7 16 (some .int) G cA (adr W9) []) {res : Int32 × MdS} (kb_116 : MdS → Int32 → Int32 → Int32 → Int32 → Int32 → Option (Int32 × MdS)) (hkb_116 : ∀ (zM : MdS) (x1 : Int32) (x3 : Int32) (x4 : Int32) (x5 : Int32) (x7 : Int32) (H : Heap) (locs : List Loc) (ls : Array Slot), va_P G vwCl ((wMd cA qM zM)) H → va_D (adr W9) ((wMd cA qM zM)) → va_S (adr W9) s.heap H locs → lv_has ls 16 [(0, .ref (qM 0)), (1, .int x1), (3, .int x3), (4, .int x4), (5, .int x5), (7, .int x7)] → kb_116 zM x1 x3 x4 x5 x7 = some res → W p l e rm_X7_add s m args below meth c H locs 0 0 (MQ below (qWi G W9 ((wMd cA qM res.2)) res.1) args s 0 0 (adr W9)) (F0 m 116 ls [])) (kb_127 : MdS → Int32 → Int32 → Int32 → Int32 → Int32 → Int32 → Option (Int32 × MdS)) (hkb_127 : ∀ (zM : MdS) (x1 : Int32) (x3 : Int32) (x4 : Int32) (x5 : Int32) (x7 : Int32) (x8 : Int32) (H : Heap) (locs : List Loc) (ls : Array Slot), va_P G vwCl ((wMd cA qM zM)) H → va_D (adr W9) ((wMd cA qM zM)) → va_S (adr W9) s.heap H locs → lv_has ls 16 [(0, .ref (qM 0)), (1, .int x1), (3, .int x3), (4, .int x4), (5, .int x5), (7, .int x7), (8, .int x8)] → kb_127 zM x1 x3 x4 x5 x7 x8 = some res → W p l e rm_X7_add s m args below meth c H locs 0 0 (MQ below (qWi G W9 ((wMd cA qM res.2)) res.1) args s 0 0 (adr W9)) (F0 m 127 ls [])) : ∀ (zM : MdS) (x1 : Int32) (x3 : Int32) (x4 : Int32) (x5 : Int32) (x7 : Int32) (x8 : Int32) (x10 : Int64) (v0 : Int64) (H : Heap) (locs : List Loc) (ls : Array Slot), va_P G vwCl ((wMd cA qM zM)) H → va_D (adr W9) ((wMd cA qM zM)) → va_S (adr W9) s.heap H locs → lv_has ls 16 [(0, .ref (qM 0)), (1, .int x1), (3, .int x3), (4, .int x4), (5, .int x5), (7, .int x7), (8, .int x8), (10, .long x10)] → f_X7_add_238 kb_116 kb_127 zM x1 x3 x4 x5 x7 x8 x10 v0 = some res → W p l e rm_X7_add s m args below meth c H locs 0 0 (MQ below (qWi G W9 ((wMd cA qM res.2)) res.1) args s 0 0 (adr W9)) (F0 m 238 ls [.long v0]) := by
  obtain ⟨hx, hb, hr, hml, hown, hts, hlocks, hK, hR, hRA⟩ := id C0
  intro zM x1 x3 x4 x5 x7 x8 x10 v0 H locs ls hP hD hS hl hf
  unfold f_X7_add_238 at hf
  refine lv_lstore (lv' := [(12, .long v0), (0, .ref (qM 0)), (1, .int x1), (3, .int x3), (4, .int x4), (5, .int x5), (7, .int x7), (8, .int x8), (10, .long x10)]) hx hb dX7_add_238 hl (by decide) rfl (fun ls hl => ?_)
  refine lv_lload hx hb dX7_add_240 (lv_at hl 8 rfl) ?_
  refine lv_lload hx hb dX7_add_242 (lv_at hl 0 rfl) ?_
  obtain ⟨r_1, hr_1, hf⟩ := obd hf
  refine cRlS (As := [.long x10, .long v0]) (rest := []) ⟨hx, hb, hml, hown, hts⟩ (m_X7_gcd l G cA x10 v0 r_1 hr_1) (cw_X7_gcd hts wi_769 ⟨Nat.le_of_ble_eq_true rfl, Nat.le_of_ble_eq_true rfl⟩) hK va_Pnil rfl hl.1 rfl (Nat.le_of_ble_eq_true rfl) dX7_add_244 ⟨Nat.zero_le _, Nat.zero_le _⟩ ?_
  refine lv_lstore (lv' := [(14, .long r_1), (12, .long v0), (0, .ref (qM 0)), (1, .int x1), (3, .int x3), (4, .int x4), (5, .int x5), (7, .int x7), (8, .int x8), (10, .long x10)]) hx hb dX7_add_247 hl (by decide) rfl (fun ls hl => ?_)
  refine lv_aload_n hx hb dX7_add_249 rfl (lv_at hl 2 rfl) ?_
  refine lv_bipush (v := (8 : Int32)) hx hb dX7_add_250 (by decide) ?_
  refine lv_iload hx hb dX7_add_252 (lv_at hl 7 rfl) ?_
  obtain ⟨r_2, hr_2, hf⟩ := obd hf
  refine cRiS (As := [.int x7]) (rest := [.int (8 : Int32), .ref (qM 0)]) ⟨hx, hb, hml, hown, hts⟩ (m_X7_kindOf l G cA x7 r_2 hr_2) (cw_X7_kindOf hts wi_833 ⟨Nat.le_of_ble_eq_true rfl, Nat.le_of_ble_eq_true rfl⟩) hK va_Pnil rfl hl.1 rfl (Nat.le_of_ble_eq_true rfl) dX7_add_254 ⟨Nat.zero_le _, Nat.zero_le _⟩ ?_
  refine lv_iload hx hb dX7_add_257 (lv_at hl 7 rfl) ?_
  obtain ⟨r_3, hr_3, hf⟩ := obd hf
  refine cRiS (As := [.int x7]) (rest := [.int r_2, .int (8 : Int32), .ref (qM 0)]) ⟨hx, hb, hml, hown, hts⟩ (m_X7_countOf l G cA x7 r_3 hr_3) (cw_X7_countOf hts wi_836 ⟨Nat.le_of_ble_eq_true rfl, Nat.le_of_ble_eq_true rfl⟩) hK va_Pnil rfl hl.1 rfl (Nat.le_of_ble_eq_true rfl) dX7_add_259 ⟨Nat.zero_le _, Nat.zero_le _⟩ ?_
  refine lv_iload hx hb dX7_add_262 (lv_at hl 8 rfl) ?_
  refine lv_lload hx hb dX7_add_264 (lv_at hl 9 rfl) ?_
  refine lv_lload hx hb dX7_add_266 (lv_at hl 0 rfl) ?_
  obtain ⟨hn_4, hf⟩ := oif hf
  refine lv_ldiv hx hb dX7_add_268 hn_4 ?_
  refine lv_lload hx hb dX7_add_269 (lv_at hl 1 rfl) ?_
  refine lv_lload hx hb dX7_add_271 (lv_at hl 0 rfl) ?_
  obtain ⟨hn_5, hf⟩ := oif hf
  refine lv_ldiv hx hb dX7_add_273 hn_5 ?_
  obtain ⟨r_6, hr_6, hf⟩ := obd hf
  refine cWvV (As := [.int (8 : Int32), .int r_2, .int r_3, .int x8, .long (x10 / r_1), .long (v0 / r_1)]) (rest := []) (W1 := ((wMd cA qM r_6))) ⟨hx, hb, hml, hown, hts⟩ (m_X7_addTerm l G cA qM zM (8 : Int32) r_2 r_3 x8 (x10 / r_1) (v0 / r_1) r_6 hr_6) (cw_X7_addTerm hts wi_772 ⟨Nat.le_of_ble_eq_true rfl, Nat.le_of_ble_eq_true rfl⟩) hK hP hD hS [0, 1, 2, 3, 4] [5, 6, 7, 8, 9] rfl rfl rfl (by decide) rfl va_Pnil dj_nil (va_recv hK.1 hP (ci := 5) (q0 := 0) rfl rfl) rfl hl.1 rfl (Nat.le_of_ble_eq_true rfl) dX7_add_274 ⟨Nat.zero_le _, Nat.zero_le _⟩ (fun H locs hP hD hS => ?_)
  refine lv_iinc (v := (x8 + 1)) (lv' := [(8, .int (x8 + 1)), (14, .long r_1), (12, .long v0), (0, .ref (qM 0)), (1, .int x1), (3, .int x3), (4, .int x4), (5, .int x5), (7, .int x7), (10, .long x10)]) hx hb dX7_add_277 hl (k := 8) rfl rfl (by decide) rfl (fun ls hl => ?_)
  refine lv_goto (tgt := 127) hx hb dX7_add_280 (by decide) ?_
  exact hkb_127 r_6 x1 x3 x4 x5 x7 (x8 + 1) H locs ls hP hD hS (lv_sub hl [3, 4, 5, 6, 7, 8, 0] rfl) hf
def f_X7_add_217 (kb_116 : MdS → Int32 → Int32 → Int32 → Int32 → Int32 → Option (Int32 × MdS)) (kb_127 : MdS → Int32 → Int32 → Int32 → Int32 → Int32 → Int32 → Option (Int32 × MdS)) (zM : MdS) (x1 : Int32) (x3 : Int32) (x4 : Int32) (x5 : Int32) (x7 : Int32) (x8 : Int32) (x9 : Int32) (x10 : Int64) : Option (Int32 × MdS) := if inb x9 11500 = true then f_X7_add_238 kb_116 kb_127 zM x1 x3 x4 x5 x7 x8 x10 (gM_down zM x9.toNatClampNeg) else none
set_option maxHeartbeats 4000000 in
set_option maxRecDepth 100000 in
theorem b_X7_add_217 {p : Program} {l : Launch} {e : Env} {s : State} {m : MethodId} {args : Array Value} {below : List Frame} {meth : Method} {c : Code} {G : va_G} {cA : Nat → ClassId} {W9 : va_W} (qM : Nat → Nat) (C0 : Amb p s m args meth c cX7_add RX7 16 (some .int) G cA (adr W9) []) {res : Int32 × MdS} (kb_116 : MdS → Int32 → Int32 → Int32 → Int32 → Int32 → Option (Int32 × MdS)) (hkb_116 : ∀ (zM : MdS) (x1 : Int32) (x3 : Int32) (x4 : Int32) (x5 : Int32) (x7 : Int32) (H : Heap) (locs : List Loc) (ls : Array Slot), va_P G vwCl ((wMd cA qM zM)) H → va_D (adr W9) ((wMd cA qM zM)) → va_S (adr W9) s.heap H locs → lv_has ls 16 [(0, .ref (qM 0)), (1, .int x1), (3, .int x3), (4, .int x4), (5, .int x5), (7, .int x7)] → kb_116 zM x1 x3 x4 x5 x7 = some res → W p l e rm_X7_add s m args below meth c H locs 0 0 (MQ below (qWi G W9 ((wMd cA qM res.2)) res.1) args s 0 0 (adr W9)) (F0 m 116 ls [])) (kb_127 : MdS → Int32 → Int32 → Int32 → Int32 → Int32 → Int32 → Option (Int32 × MdS)) (hkb_127 : ∀ (zM : MdS) (x1 : Int32) (x3 : Int32) (x4 : Int32) (x5 : Int32) (x7 : Int32) (x8 : Int32) (H : Heap) (locs : List Loc) (ls : Array Slot), va_P G vwCl ((wMd cA qM zM)) H → va_D (adr W9) ((wMd cA qM zM)) → va_S (adr W9) s.heap H locs → lv_has ls 16 [(0, .ref (qM 0)), (1, .int x1), (3, .int x3), (4, .int x4), (5, .int x5), (7, .int x7), (8, .int x8)] → kb_127 zM x1 x3 x4 x5 x7 x8 = some res → W p l e rm_X7_add s m args below meth c H locs 0 0 (MQ below (qWi G W9 ((wMd cA qM res.2)) res.1) args s 0 0 (adr W9)) (F0 m 127 ls [])) : ∀ (zM : MdS) (x1 : Int32) (x3 : Int32) (x4 : Int32) (x5 : Int32) (x7 : Int32) (x8 : Int32) (x9 : Int32) (x10 : Int64) (H : Heap) (locs : List Loc) (ls : Array Slot), va_P G vwCl ((wMd cA qM zM)) H → va_D (adr W9) ((wMd cA qM zM)) → va_S (adr W9) s.heap H locs → lv_has ls 16 [(0, .ref (qM 0)), (1, .int x1), (3, .int x3), (4, .int x4), (5, .int x5), (7, .int x7), (8, .int x8), (9, .int x9), (10, .long x10)] → f_X7_add_217 kb_116 kb_127 zM x1 x3 x4 x5 x7 x8 x9 x10 = some res → W p l e rm_X7_add s m args below meth c H locs 0 0 (MQ below (qWi G W9 ((wMd cA qM res.2)) res.1) args s 0 0 (adr W9)) (F0 m 217 ls []) := by
  obtain ⟨hx, hb, hr, hml, hown, hts, hlocks, hK, hR, hRA⟩ := id C0
  intro zM x1 x3 x4 x5 x7 x8 x9 x10 H locs ls hP hD hS hl hf
  unfold f_X7_add_217 at hf
  refine lv_aload_n hx hb dX7_add_217 rfl (lv_at hl 0 rfl) ?_
  refine va_get (D := G) (ci := 5) (v := .ref (qM 4)) (C := RX7) (T := TX7) (N := 13) hx hb hts fin_X7 hown hK.1 hP 0 rfl rfl 7 (by decide) (hts _ wi_678) (fun _ h9 => h9) rfl dX7_add_218 ?_
  refine lv_iload hx hb dX7_add_221 (lv_at hl 7 rfl) ?_
  obtain ⟨hi_1, hf⟩ := oif hf
  refine va_lald hx hb hK.1 hP 4 1 rfl rfl (inb_in hi_1) dX7_add_223 ?_
  refine lv_goto (tgt := 238) hx hb dX7_add_224 (by decide) ?_
  exact b_X7_add_238 qM   C0 kb_116 hkb_116 kb_127 hkb_127 zM x1 x3 x4 x5 x7 x8 x10 (gM_down zM x9.toNatClampNeg) H locs ls hP hD hS (lv_sub hl [0, 1, 2, 3, 4, 5, 6, 8] rfl) hf
def f_X7_add_200 (kb_116 : MdS → Int32 → Int32 → Int32 → Int32 → Int32 → Option (Int32 × MdS)) (kb_127 : MdS → Int32 → Int32 → Int32 → Int32 → Int32 → Int32 → Option (Int32 × MdS)) (zM : MdS) (x1 : Int32) (x3 : Int32) (x4 : Int32) (x5 : Int32) (x7 : Int32) (x8 : Int32) (x9 : Int32) (v0 : Int64) : Option (Int32 × MdS) := if x4 = x5 then f_X7_add_217 kb_116 kb_127 zM x1 x3 x4 x5 x7 x8 x9 v0 else if ¬ x4 = (-x5) then if inb x9 11500 = true then f_X7_add_238 kb_116 kb_127 zM x1 x3 x4 x5 x7 x8 v0 ((gM_down zM x9.toNatClampNeg) * x5.toInt64) else none else f_X7_add_217 kb_116 kb_127 zM x1 x3 x4 x5 x7 x8 x9 v0
set_option maxHeartbeats 4000000 in
set_option maxRecDepth 100000 in
theorem b_X7_add_200 {p : Program} {l : Launch} {e : Env} {s : State} {m : MethodId} {args : Array Value} {below : List Frame} {meth : Method} {c : Code} {G : va_G} {cA : Nat → ClassId} {W9 : va_W} (qM : Nat → Nat) (C0 : Amb p s m args meth c cX7_add RX7 16 (some .int) G cA (adr W9) []) {res : Int32 × MdS} (kb_116 : MdS → Int32 → Int32 → Int32 → Int32 → Int32 → Option (Int32 × MdS)) (hkb_116 : ∀ (zM : MdS) (x1 : Int32) (x3 : Int32) (x4 : Int32) (x5 : Int32) (x7 : Int32) (H : Heap) (locs : List Loc) (ls : Array Slot), va_P G vwCl ((wMd cA qM zM)) H → va_D (adr W9) ((wMd cA qM zM)) → va_S (adr W9) s.heap H locs → lv_has ls 16 [(0, .ref (qM 0)), (1, .int x1), (3, .int x3), (4, .int x4), (5, .int x5), (7, .int x7)] → kb_116 zM x1 x3 x4 x5 x7 = some res → W p l e rm_X7_add s m args below meth c H locs 0 0 (MQ below (qWi G W9 ((wMd cA qM res.2)) res.1) args s 0 0 (adr W9)) (F0 m 116 ls [])) (kb_127 : MdS → Int32 → Int32 → Int32 → Int32 → Int32 → Int32 → Option (Int32 × MdS)) (hkb_127 : ∀ (zM : MdS) (x1 : Int32) (x3 : Int32) (x4 : Int32) (x5 : Int32) (x7 : Int32) (x8 : Int32) (H : Heap) (locs : List Loc) (ls : Array Slot), va_P G vwCl ((wMd cA qM zM)) H → va_D (adr W9) ((wMd cA qM zM)) → va_S (adr W9) s.heap H locs → lv_has ls 16 [(0, .ref (qM 0)), (1, .int x1), (3, .int x3), (4, .int x4), (5, .int x5), (7, .int x7), (8, .int x8)] → kb_127 zM x1 x3 x4 x5 x7 x8 = some res → W p l e rm_X7_add s m args below meth c H locs 0 0 (MQ below (qWi G W9 ((wMd cA qM res.2)) res.1) args s 0 0 (adr W9)) (F0 m 127 ls [])) : ∀ (zM : MdS) (x1 : Int32) (x3 : Int32) (x4 : Int32) (x5 : Int32) (x7 : Int32) (x8 : Int32) (x9 : Int32) (v0 : Int64) (H : Heap) (locs : List Loc) (ls : Array Slot), va_P G vwCl ((wMd cA qM zM)) H → va_D (adr W9) ((wMd cA qM zM)) → va_S (adr W9) s.heap H locs → lv_has ls 16 [(0, .ref (qM 0)), (1, .int x1), (3, .int x3), (4, .int x4), (5, .int x5), (7, .int x7), (8, .int x8), (9, .int x9)] → f_X7_add_200 kb_116 kb_127 zM x1 x3 x4 x5 x7 x8 x9 v0 = some res → W p l e rm_X7_add s m args below meth c H locs 0 0 (MQ below (qWi G W9 ((wMd cA qM res.2)) res.1) args s 0 0 (adr W9)) (F0 m 200 ls [.long v0]) := by
  obtain ⟨hx, hb, hr, hml, hown, hts, hlocks, hK, hR, hRA⟩ := id C0
  intro zM x1 x3 x4 x5 x7 x8 x9 v0 H locs ls hP hD hS hl hf
  unfold f_X7_add_200 at hf
  refine lv_lstore (lv' := [(10, .long v0), (0, .ref (qM 0)), (1, .int x1), (3, .int x3), (4, .int x4), (5, .int x5), (7, .int x7), (8, .int x8), (9, .int x9)]) hx hb dX7_add_200 hl (by decide) rfl (fun ls hl => ?_)
  refine lv_iload hx hb dX7_add_202 (lv_at hl 4 rfl) ?_
  refine lv_iload hx hb dX7_add_204 (lv_at hl 5 rfl) ?_
  refine lv_icmp_eq (tgt := 217) hx hb dX7_add_206 (by decide) (fun c_1 => ?_) (fun c_1 => ?_)
  · rw [if_pos (c_1)] at hf
    exact b_X7_add_217 qM   C0 kb_116 hkb_116 kb_127 hkb_127 zM x1 x3 x4 x5 x7 x8 x9 v0 H locs ls hP hD hS (lv_sub hl [1, 2, 3, 4, 5, 6, 7, 8, 0] rfl) hf
  · rw [if_neg (c_1)] at hf
    refine lv_iload hx hb dX7_add_209 (lv_at hl 4 rfl) ?_
    refine lv_iload hx hb dX7_add_211 (lv_at hl 5 rfl) ?_
    refine lv_ineg hx hb dX7_add_213 ?_
    refine lv_icmp_ne (tgt := 227) hx hb dX7_add_214 (by decide) (fun c_2 => ?_) (fun c_2 => ?_)
    · rw [if_pos (c_2)] at hf
      refine lv_aload_n hx hb dX7_add_227 rfl (lv_at hl 1 rfl) ?_
      refine va_get (D := G) (ci := 5) (v := .ref (qM 4)) (C := RX7) (T := TX7) (N := 13) hx hb hts fin_X7 hown hK.1 hP 0 rfl rfl 7 (by decide) (hts _ wi_678) (fun _ h9 => h9) rfl dX7_add_228 ?_
      refine lv_iload hx hb dX7_add_231 (lv_at hl 8 rfl) ?_
      obtain ⟨hi_3, hf⟩ := oif hf
      refine va_lald hx hb hK.1 hP 4 1 rfl rfl (inb_in hi_3) dX7_add_233 ?_
      refine lv_iload hx hb dX7_add_234 (lv_at hl 5 rfl) ?_
      refine lv_i2l (v := x5.toInt64) hx hb dX7_add_236 rfl ?_
      refine lv_lmul hx hb dX7_add_237 ?_
      exact b_X7_add_238 qM   C0 kb_116 hkb_116 kb_127 hkb_127 zM x1 x3 x4 x5 x7 x8 v0 ((gM_down zM x9.toNatClampNeg) * x5.toInt64) H locs ls hP hD hS (lv_sub hl [1, 2, 3, 4, 5, 6, 7, 0] rfl) hf
    · rw [if_neg (not_not_intro c_2)] at hf
      exact b_X7_add_217 qM   C0 kb_116 hkb_116 kb_127 hkb_127 zM x1 x3 x4 x5 x7 x8 x9 v0 H locs ls hP hD hS (lv_sub hl [1, 2, 3, 4, 5, 6, 7, 8, 0] rfl) hf
def f_X7_add_127 (kb_116 : MdS → Int32 → Int32 → Int32 → Int32 → Int32 → Option (Int32 × MdS)) : Nat → MdS → Int32 → Int32 → Int32 → Int32 → Int32 → Int32 → Option (Int32 × MdS)
  | 0, _, _, _, _, _, _, _ => none
  | fu + 1, zM, x1, x3, x4, x5, x7, x8 => if (13 : Int32) ≤ x8 then kb_116 zM x1 x3 x4 x5 (x7 + 1) else (some ((((((1150 : Int32) * x3) + ((25 : Int32) * x7)) + x8) + (12 : Int32)))).bind fun y_2 => if ¬ x4 = x5 then if ¬ x4 = (-x5) then if inb y_2 11500 = true then f_X7_add_200 kb_116 (fun zM_ x1_ x3_ x4_ x5_ x7_ x8_ => f_X7_add_127 kb_116 fu zM_ x1_ x3_ x4_ x5_ x7_ x8_) zM x1 x3 x4 x5 x7 x8 y_2 ((gM_up zM y_2.toNatClampNeg) * x4.toInt64) else none else if inb y_2 11500 = true then f_X7_add_200 kb_116 (fun zM_ x1_ x3_ x4_ x5_ x7_ x8_ => f_X7_add_127 kb_116 fu zM_ x1_ x3_ x4_ x5_ x7_ x8_) zM x1 x3 x4 x5 x7 x8 y_2 (-(gM_up zM y_2.toNatClampNeg)) else none else if inb y_2 11500 = true then f_X7_add_200 kb_116 (fun zM_ x1_ x3_ x4_ x5_ x7_ x8_ => f_X7_add_127 kb_116 fu zM_ x1_ x3_ x4_ x5_ x7_ x8_) zM x1 x3 x4 x5 x7 x8 y_2 (gM_up zM y_2.toNatClampNeg) else none
set_option maxHeartbeats 4000000 in
set_option maxRecDepth 100000 in
theorem b_X7_add_127 {p : Program} {l : Launch} {e : Env} {s : State} {m : MethodId} {args : Array Value} {below : List Frame} {meth : Method} {c : Code} {G : va_G} {cA : Nat → ClassId} {W9 : va_W} (qM : Nat → Nat) (C0 : Amb p s m args meth c cX7_add RX7 16 (some .int) G cA (adr W9) []) {res : Int32 × MdS} (kb_116 : MdS → Int32 → Int32 → Int32 → Int32 → Int32 → Option (Int32 × MdS)) (hkb_116 : ∀ (zM : MdS) (x1 : Int32) (x3 : Int32) (x4 : Int32) (x5 : Int32) (x7 : Int32) (H : Heap) (locs : List Loc) (ls : Array Slot), va_P G vwCl ((wMd cA qM zM)) H → va_D (adr W9) ((wMd cA qM zM)) → va_S (adr W9) s.heap H locs → lv_has ls 16 [(0, .ref (qM 0)), (1, .int x1), (3, .int x3), (4, .int x4), (5, .int x5), (7, .int x7)] → kb_116 zM x1 x3 x4 x5 x7 = some res → W p l e rm_X7_add s m args below meth c H locs 0 0 (MQ below (qWi G W9 ((wMd cA qM res.2)) res.1) args s 0 0 (adr W9)) (F0 m 116 ls [])) : ∀ (fu : Nat) (zM : MdS) (x1 : Int32) (x3 : Int32) (x4 : Int32) (x5 : Int32) (x7 : Int32) (x8 : Int32) (H : Heap) (locs : List Loc) (ls : Array Slot), va_P G vwCl ((wMd cA qM zM)) H → va_D (adr W9) ((wMd cA qM zM)) → va_S (adr W9) s.heap H locs → lv_has ls 16 [(0, .ref (qM 0)), (1, .int x1), (3, .int x3), (4, .int x4), (5, .int x5), (7, .int x7), (8, .int x8)] → f_X7_add_127 kb_116 fu zM x1 x3 x4 x5 x7 x8 = some res → W p l e rm_X7_add s m args below meth c H locs 0 0 (MQ below (qWi G W9 ((wMd cA qM res.2)) res.1) args s 0 0 (adr W9)) (F0 m 127 ls []) := by
  obtain ⟨hx, hb, hr, hml, hown, hts, hlocks, hK, hR, hRA⟩ := id C0
  intro fu
  induction fu with
  | zero =>
    intro zM x1 x3 x4 x5 x7 x8 H locs ls hP hD hS hl hf
    rw [f_X7_add_127] at hf
    cases hf
  | succ fu ih =>
    intro zM x1 x3 x4 x5 x7 x8 H locs ls hP hD hS hl hf
    rw [f_X7_add_127] at hf
    refine lv_iload hx hb dX7_add_127 (lv_at hl 6 rfl) ?_
    refine lv_bipush (v := (13 : Int32)) hx hb dX7_add_129 (by decide) ?_
    refine lv_icmp_ge (tgt := 283) hx hb dX7_add_131 (by decide) (fun c_1 => ?_) (fun c_1 => ?_)
    · rw [if_pos (c_1)] at hf
      refine lv_iinc (v := (x7 + 1)) (lv' := [(7, .int (x7 + 1)), (0, .ref (qM 0)), (1, .int x1), (3, .int x3), (4, .int x4), (5, .int x5), (8, .int x8)]) hx hb dX7_add_283 hl (k := 5) rfl rfl (by decide) rfl (fun ls hl => ?_)
      refine lv_goto (tgt := 116) hx hb dX7_add_286 (by decide) ?_
      exact hkb_116 zM x1 x3 x4 x5 (x7 + 1) H locs ls hP hD hS (lv_sub hl [1, 2, 3, 4, 5, 0] rfl) hf
    · rw [if_neg (c_1)] at hf
      refine lv_sipush (v := (1150 : Int32)) hx hb dX7_add_134 (by decide) ?_
      refine lv_iload_n hx hb dX7_add_137 rfl (lv_at hl 2 rfl) ?_
      refine lv_imul hx hb dX7_add_138 ?_
      refine lv_bipush (v := (25 : Int32)) hx hb dX7_add_139 (by decide) ?_
      refine lv_iload hx hb dX7_add_141 (lv_at hl 5 rfl) ?_
      refine lv_imul hx hb dX7_add_143 ?_
      refine lv_iadd hx hb dX7_add_144 ?_
      refine lv_iload hx hb dX7_add_145 (lv_at hl 6 rfl) ?_
      refine lv_iadd hx hb dX7_add_147 ?_
      refine lv_bipush (v := (12 : Int32)) hx hb dX7_add_148 (by decide) ?_
      refine lv_iadd hx hb dX7_add_150 ?_
      obtain ⟨y_2, hq, hf⟩ := obd hf
      have hy_2 : (((((1150 : Int32) * x3) + ((25 : Int32) * x7)) + x8) + (12 : Int32)) = y_2 := Option.some.inj hq
      rw [hy_2]
      refine lv_istore (lv' := [(9, .int y_2), (0, .ref (qM 0)), (1, .int x1), (3, .int x3), (4, .int x4), (5, .int x5), (7, .int x7), (8, .int x8)]) hx hb dX7_add_151 hl (by decide) rfl (fun ls hl => ?_)
      refine lv_iload hx hb dX7_add_153 (lv_at hl 4 rfl) ?_
      refine lv_iload hx hb dX7_add_155 (lv_at hl 5 rfl) ?_
      refine lv_icmp_ne (tgt := 170) hx hb dX7_add_157 (by decide) (fun c_3 => ?_) (fun c_3 => ?_)
      · rw [if_pos (c_3)] at hf
        refine lv_iload hx hb dX7_add_170 (lv_at hl 4 rfl) ?_
        refine lv_iload hx hb dX7_add_172 (lv_at hl 5 rfl) ?_
        refine lv_ineg hx hb dX7_add_174 ?_
        refine lv_icmp_ne (tgt := 189) hx hb dX7_add_175 (by decide) (fun c_4 => ?_) (fun c_4 => ?_)
        · rw [if_pos (c_4)] at hf
          refine lv_aload_n hx hb dX7_add_189 rfl (lv_at hl 1 rfl) ?_
          refine va_get (D := G) (ci := 5) (v := .ref (qM 3)) (C := RX7) (T := TX7) (N := 13) hx hb hts fin_X7 hown hK.1 hP 0 rfl rfl 6 (by decide) (hts _ wi_677) (fun _ h9 => h9) rfl dX7_add_190 ?_
          refine lv_iload hx hb dX7_add_193 (lv_at hl 0 rfl) ?_
          obtain ⟨hi_5, hf⟩ := oif hf
          refine va_lald hx hb hK.1 hP 3 1 rfl rfl (inb_in hi_5) dX7_add_195 ?_
          refine lv_iload hx hb dX7_add_196 (lv_at hl 4 rfl) ?_
          refine lv_i2l (v := x4.toInt64) hx hb dX7_add_198 rfl ?_
          refine lv_lmul hx hb dX7_add_199 ?_
          exact b_X7_add_200 qM   C0 kb_116 hkb_116 (fun zM_ x1_ x3_ x4_ x5_ x7_ x8_ => f_X7_add_127 kb_116 fu zM_ x1_ x3_ x4_ x5_ x7_ x8_) ih zM x1 x3 x4 x5 x7 x8 y_2 ((gM_up zM y_2.toNatClampNeg) * x4.toInt64) H locs ls hP hD hS (lv_sub hl [1, 2, 3, 4, 5, 6, 7, 0] rfl) hf
        · rw [if_neg (not_not_intro c_4)] at hf
          refine lv_aload_n hx hb dX7_add_178 rfl (lv_at hl 1 rfl) ?_
          refine va_get (D := G) (ci := 5) (v := .ref (qM 3)) (C := RX7) (T := TX7) (N := 13) hx hb hts fin_X7 hown hK.1 hP 0 rfl rfl 6 (by decide) (hts _ wi_677) (fun _ h9 => h9) rfl dX7_add_179 ?_
          refine lv_iload hx hb dX7_add_182 (lv_at hl 0 rfl) ?_
          obtain ⟨hi_6, hf⟩ := oif hf
          refine va_lald hx hb hK.1 hP 3 1 rfl rfl (inb_in hi_6) dX7_add_184 ?_
          refine lv_lneg hx hb dX7_add_185 ?_
          refine lv_goto (tgt := 200) hx hb dX7_add_186 (by decide) ?_
          exact b_X7_add_200 qM   C0 kb_116 hkb_116 (fun zM_ x1_ x3_ x4_ x5_ x7_ x8_ => f_X7_add_127 kb_116 fu zM_ x1_ x3_ x4_ x5_ x7_ x8_) ih zM x1 x3 x4 x5 x7 x8 y_2 (-(gM_up zM y_2.toNatClampNeg)) H locs ls hP hD hS (lv_sub hl [1, 2, 3, 4, 5, 6, 7, 0] rfl) hf
      · rw [if_neg (not_not_intro c_3)] at hf
        refine lv_aload_n hx hb dX7_add_160 rfl (lv_at hl 1 rfl) ?_
        refine va_get (D := G) (ci := 5) (v := .ref (qM 3)) (C := RX7) (T := TX7) (N := 13) hx hb hts fin_X7 hown hK.1 hP 0 rfl rfl 6 (by decide) (hts _ wi_677) (fun _ h9 => h9) rfl dX7_add_161 ?_
        refine lv_iload hx hb dX7_add_164 (lv_at hl 0 rfl) ?_
        obtain ⟨hi_7, hf⟩ := oif hf
        refine va_lald hx hb hK.1 hP 3 1 rfl rfl (inb_in hi_7) dX7_add_166 ?_
        refine lv_goto (tgt := 200) hx hb dX7_add_167 (by decide) ?_
        exact b_X7_add_200 qM   C0 kb_116 hkb_116 (fun zM_ x1_ x3_ x4_ x5_ x7_ x8_ => f_X7_add_127 kb_116 fu zM_ x1_ x3_ x4_ x5_ x7_ x8_) ih zM x1 x3 x4 x5 x7 x8 y_2 (gM_up zM y_2.toNatClampNeg) H locs ls hP hD hS (lv_sub hl [1, 2, 3, 4, 5, 6, 7, 0] rfl) hf
def f_X7_add_116  : Nat → MdS → Int32 → Int32 → Int32 → Int32 → Int32 → Option (Int32 × MdS)
  | 0, _, _, _, _, _, _ => none
  | fu + 1, zM, x1, x3, x4, x5, x7 => if (46 : Int32) ≤ x7 then (f_X7_finish zM x1).bind fun r_2 => some (r_2.1, r_2.2) else f_X7_add_127 (fun zM_ x1_ x3_ x4_ x5_ x7_ => f_X7_add_116  fu zM_ x1_ x3_ x4_ x5_ x7_) fuel zM x1 x3 x4 x5 x7 (-12 : Int32)
set_option maxHeartbeats 4000000 in
set_option maxRecDepth 100000 in
theorem b_X7_add_116 {p : Program} {l : Launch} {e : Env} {s : State} {m : MethodId} {args : Array Value} {below : List Frame} {meth : Method} {c : Code} {G : va_G} {cA : Nat → ClassId} {W9 : va_W} (qM : Nat → Nat) (C0 : Amb p s m args meth c cX7_add RX7 16 (some .int) G cA (adr W9) []) {res : Int32 × MdS} : ∀ (fu : Nat) (zM : MdS) (x1 : Int32) (x3 : Int32) (x4 : Int32) (x5 : Int32) (x7 : Int32) (H : Heap) (locs : List Loc) (ls : Array Slot), va_P G vwCl ((wMd cA qM zM)) H → va_D (adr W9) ((wMd cA qM zM)) → va_S (adr W9) s.heap H locs → lv_has ls 16 [(0, .ref (qM 0)), (1, .int x1), (3, .int x3), (4, .int x4), (5, .int x5), (7, .int x7)] → f_X7_add_116 fu zM x1 x3 x4 x5 x7 = some res → W p l e rm_X7_add s m args below meth c H locs 0 0 (MQ below (qWi G W9 ((wMd cA qM res.2)) res.1) args s 0 0 (adr W9)) (F0 m 116 ls []) := by
  obtain ⟨hx, hb, hr, hml, hown, hts, hlocks, hK, hR, hRA⟩ := id C0
  intro fu
  induction fu with
  | zero =>
    intro zM x1 x3 x4 x5 x7 H locs ls hP hD hS hl hf
    rw [f_X7_add_116] at hf
    cases hf
  | succ fu ih =>
    intro zM x1 x3 x4 x5 x7 H locs ls hP hD hS hl hf
    rw [f_X7_add_116] at hf
    refine lv_iload hx hb dX7_add_116 (lv_at hl 5 rfl) ?_
    refine lv_bipush (v := (46 : Int32)) hx hb dX7_add_118 (by decide) ?_
    refine lv_icmp_ge (tgt := 289) hx hb dX7_add_120 (by decide) (fun c_1 => ?_) (fun c_1 => ?_)
    · rw [if_pos (c_1)] at hf
      refine lv_aload_n hx hb dX7_add_289 rfl (lv_at hl 0 rfl) ?_
      refine lv_iload_n hx hb dX7_add_290 rfl (lv_at hl 1 rfl) ?_
      obtain ⟨r_2, hr_2, hf⟩ := obd hf
      refine cWiV (As := [.int x1]) (rest := []) (W1 := ((wMd cA qM r_2.2))) ⟨hx, hb, hml, hown, hts⟩ (m_X7_finish l G cA qM zM x1 r_2 hr_2) (cw_X7_finish hts wi_790 ⟨Nat.le_of_ble_eq_true rfl, Nat.le_of_ble_eq_true rfl⟩) hK hP hD hS [0, 1, 2, 3, 4] [5, 6, 7, 8, 9] rfl rfl rfl (by decide) rfl va_Pnil dj_nil (va_recv hK.1 hP (ci := 5) (q0 := 0) rfl rfl) rfl hl.1 rfl (Nat.le_of_ble_eq_true rfl) dX7_add_291 ⟨Nat.zero_le _, Nat.zero_le _⟩ (fun H locs hP hD hS => ?_)
      cases hf
      exact W.iret hx hb hr (fun t ht hW => ⟨⟨_, (), rfl, rfl, toT ht hP⟩, hS.F ht⟩) hS.2.2 dX7_add_294 hlocks
    · rw [if_neg (c_1)] at hf
      refine lv_bipush (v := (-12 : Int32)) hx hb dX7_add_123 (by decide) ?_
      refine lv_istore (lv' := [(8, .int (-12 : Int32)), (0, .ref (qM 0)), (1, .int x1), (3, .int x3), (4, .int x4), (5, .int x5), (7, .int x7)]) hx hb dX7_add_125 hl (by decide) rfl (fun ls hl => ?_)
      exact b_X7_add_127 qM   C0 (fun zM_ x1_ x3_ x4_ x5_ x7_ => f_X7_add_116  fu zM_ x1_ x3_ x4_ x5_ x7_) ih fuel zM x1 x3 x4 x5 x7 (-12 : Int32) H locs ls hP hD hS (lv_sub hl [1, 2, 3, 4, 5, 6, 0] rfl) hf
def f_X7_add_93 (zM : MdS) (x1 : Int32) (x2 : Int32) (x3 : Int32) (x4 : Int32) (x5 : Int32) (v1 : Int32) : Option (Int32 × MdS) := (f_X7_refused zM v1).bind fun r_1 => if r_1.1 = 0 then (f_X7_copy (uM_isFull r_1.2 (0 : Int32)) (8 : Int32) x2).bind fun r_3 => f_X7_add_116 fuel r_3 x1 x3 x4 x5 (0 : Int32) else some ((0 : Int32), r_1.2)
set_option maxHeartbeats 4000000 in
set_option maxRecDepth 100000 in
theorem b_X7_add_93 {p : Program} {l : Launch} {e : Env} {s : State} {m : MethodId} {args : Array Value} {below : List Frame} {meth : Method} {c : Code} {G : va_G} {cA : Nat → ClassId} {W9 : va_W} (qM : Nat → Nat) (C0 : Amb p s m args meth c cX7_add RX7 16 (some .int) G cA (adr W9) []) {res : Int32 × MdS} : ∀ (zM : MdS) (x1 : Int32) (x2 : Int32) (x3 : Int32) (x4 : Int32) (x5 : Int32) (v1 : Int32) (H : Heap) (locs : List Loc) (ls : Array Slot), va_P G vwCl ((wMd cA qM zM)) H → va_D (adr W9) ((wMd cA qM zM)) → va_S (adr W9) s.heap H locs → lv_has ls 16 [(0, .ref (qM 0)), (1, .int x1), (2, .int x2), (3, .int x3), (4, .int x4), (5, .int x5)] → f_X7_add_93 zM x1 x2 x3 x4 x5 v1 = some res → W p l e rm_X7_add s m args below meth c H locs 0 0 (MQ below (qWi G W9 ((wMd cA qM res.2)) res.1) args s 0 0 (adr W9)) (F0 m 93 ls [.int v1, .ref (qM 0)]) := by
  obtain ⟨hx, hb, hr, hml, hown, hts, hlocks, hK, hR, hRA⟩ := id C0
  intro zM x1 x2 x3 x4 x5 v1 H locs ls hP hD hS hl hf
  unfold f_X7_add_93 at hf
  obtain ⟨r_1, hr_1, hf⟩ := obd hf
  refine cWiV (As := [.int v1]) (rest := []) (W1 := ((wMd cA qM r_1.2))) ⟨hx, hb, hml, hown, hts⟩ (m_X7_refused l G cA qM zM v1 r_1 hr_1) (cw_X7_refused hts wi_723 ⟨Nat.le_of_ble_eq_true rfl, Nat.le_of_ble_eq_true rfl⟩) hK hP hD hS [0, 1, 2, 3, 4] [5, 6, 7, 8, 9] rfl rfl rfl (by decide) rfl va_Pnil dj_nil (va_recv hK.1 hP (ci := 5) (q0 := 0) rfl rfl) rfl hl.1 rfl (Nat.le_of_ble_eq_true rfl) dX7_add_93 ⟨Nat.zero_le _, Nat.zero_le _⟩ (fun H locs hP hD hS => ?_)
  refine lv_if_eq (tgt := 101) hx hb dX7_add_96 (by decide) (fun c_2 => ?_) (fun c_2 => ?_)
  · rw [if_pos (c_2)] at hf
    refine lv_aload_n hx hb dX7_add_101 rfl (lv_at hl 0 rfl) ?_
    refine lv_iconst (v := 0) hx hb dX7_add_102 (by decide) ?_
    refine va_put (D := G) (ci := 5) (v := .int (0 : Int32)) (ty := .boolean) (C := RX7) (T := TX7) (N := 13) hx hb hts fin_X7 tyX7 tyX7_ok nmX7 hown hK.1 hP hD hS 0 rfl rfl 8 (by decide) (hts _ wi_679) (fun _ h9 => h9) rfl (by decide +kernel) (by decide) (by decide) (Nat.le_of_ble_eq_true rfl) dX7_add_103 (fun H locs hP hD hS => ?_)
    have hP : va_P G vwCl ((wMd cA qM (uM_isFull r_1.2 (0 : Int32)))) H := hP
    have hD : va_D (adr W9) ((wMd cA qM (uM_isFull r_1.2 (0 : Int32)))) := hD
    refine lv_aload_n hx hb dX7_add_106 rfl (lv_at hl 0 rfl) ?_
    refine lv_bipush (v := (8 : Int32)) hx hb dX7_add_107 (by decide) ?_
    refine lv_iload_n hx hb dX7_add_109 rfl (lv_at hl 2 rfl) ?_
    obtain ⟨r_3, hr_3, hf⟩ := obd hf
    refine cWvV (As := [.int (8 : Int32), .int x2]) (rest := []) (W1 := ((wMd cA qM r_3))) ⟨hx, hb, hml, hown, hts⟩ (m_X7_copy l G cA qM (uM_isFull r_1.2 (0 : Int32)) (8 : Int32) x2 r_3 hr_3) (cw_X7_copy hts wi_802 ⟨Nat.le_of_ble_eq_true rfl, Nat.le_of_ble_eq_true rfl⟩) hK hP hD hS [0, 1, 2, 3, 4] [5, 6, 7, 8, 9] rfl rfl rfl (by decide) rfl va_Pnil dj_nil (va_recv hK.1 hP (ci := 5) (q0 := 0) rfl rfl) rfl hl.1 rfl (Nat.le_of_ble_eq_true rfl) dX7_add_110 ⟨Nat.zero_le _, Nat.zero_le _⟩ (fun H locs hP hD hS => ?_)
    refine lv_iconst (v := 0) hx hb dX7_add_113 (by decide) ?_
    refine lv_istore (lv' := [(7, .int (0 : Int32)), (0, .ref (qM 0)), (1, .int x1), (2, .int x2), (3, .int x3), (4, .int x4), (5, .int x5)]) hx hb dX7_add_114 hl (by decide) rfl (fun ls hl => ?_)
    exact b_X7_add_116 qM   C0  fuel r_3 x1 x3 x4 x5 (0 : Int32) H locs ls hP hD hS (lv_sub hl [1, 2, 4, 5, 6, 0] rfl) hf
  · rw [if_neg (c_2)] at hf
    refine lv_iconst (v := 0) hx hb dX7_add_99 (by decide) ?_
    cases hf
    exact W.iret hx hb hr (fun t ht hW => ⟨⟨_, (), rfl, rfl, toT ht hP⟩, hS.F ht⟩) hS.2.2 dX7_add_100 hlocks
def f_X7_add_92 (zM : MdS) (x1 : Int32) (x2 : Int32) (x3 : Int32) (x4 : Int32) (x5 : Int32) : Option (Int32 × MdS) := f_X7_add_93  zM x1 x2 x3 x4 x5 (0 : Int32)
set_option maxHeartbeats 4000000 in
set_option maxRecDepth 100000 in
theorem b_X7_add_92 {p : Program} {l : Launch} {e : Env} {s : State} {m : MethodId} {args : Array Value} {below : List Frame} {meth : Method} {c : Code} {G : va_G} {cA : Nat → ClassId} {W9 : va_W} (qM : Nat → Nat) (C0 : Amb p s m args meth c cX7_add RX7 16 (some .int) G cA (adr W9) []) {res : Int32 × MdS} : ∀ (zM : MdS) (x1 : Int32) (x2 : Int32) (x3 : Int32) (x4 : Int32) (x5 : Int32) (H : Heap) (locs : List Loc) (ls : Array Slot), va_P G vwCl ((wMd cA qM zM)) H → va_D (adr W9) ((wMd cA qM zM)) → va_S (adr W9) s.heap H locs → lv_has ls 16 [(0, .ref (qM 0)), (1, .int x1), (2, .int x2), (3, .int x3), (4, .int x4), (5, .int x5)] → f_X7_add_92 zM x1 x2 x3 x4 x5 = some res → W p l e rm_X7_add s m args below meth c H locs 0 0 (MQ below (qWi G W9 ((wMd cA qM res.2)) res.1) args s 0 0 (adr W9)) (F0 m 92 ls [.ref (qM 0)]) := by
  obtain ⟨hx, hb, hr, hml, hown, hts, hlocks, hK, hR, hRA⟩ := id C0
  intro zM x1 x2 x3 x4 x5 H locs ls hP hD hS hl hf
  unfold f_X7_add_92 at hf
  refine lv_iconst (v := 0) hx hb dX7_add_92 (by decide) ?_
  exact b_X7_add_93 qM   C0  zM x1 x2 x3 x4 x5 (0 : Int32) H locs ls hP hD hS (lv_sub hl [0, 1, 2, 3, 4, 5] rfl) hf
def f_X7_add_53 (zM : MdS) (x1 : Int32) (x2 : Int32) (x3 : Int32) (x4 : Int32) (x5 : Int32) (v0 : Int32) : Option (Int32 × MdS) := if ¬ v0 = 0 then if x4 = x5 then f_X7_add_92  zM x1 x2 x3 x4 x5 else if x4 = (-x5) then f_X7_add_92  zM x1 x2 x3 x4 x5 else (f_X7_isSmall zM x3).bind fun r_4 => if ¬ r_4 = 0 then f_X7_add_92  zM x1 x2 x3 x4 x5 else f_X7_add_93  zM x1 x2 x3 x4 x5 (2 : Int32) else f_X7_add_93  zM x1 x2 x3 x4 x5 (1 : Int32)
set_option maxHeartbeats 4000000 in
set_option maxRecDepth 100000 in
theorem b_X7_add_53 {p : Program} {l : Launch} {e : Env} {s : State} {m : MethodId} {args : Array Value} {below : List Frame} {meth : Method} {c : Code} {G : va_G} {cA : Nat → ClassId} {W9 : va_W} (qM : Nat → Nat) (C0 : Amb p s m args meth c cX7_add RX7 16 (some .int) G cA (adr W9) []) {res : Int32 × MdS} : ∀ (zM : MdS) (x1 : Int32) (x2 : Int32) (x3 : Int32) (x4 : Int32) (x5 : Int32) (v0 : Int32) (H : Heap) (locs : List Loc) (ls : Array Slot), va_P G vwCl ((wMd cA qM zM)) H → va_D (adr W9) ((wMd cA qM zM)) → va_S (adr W9) s.heap H locs → lv_has ls 16 [(0, .ref (qM 0)), (1, .int x1), (2, .int x2), (3, .int x3), (4, .int x4), (5, .int x5)] → f_X7_add_53 zM x1 x2 x3 x4 x5 v0 = some res → W p l e rm_X7_add s m args below meth c H locs 0 0 (MQ below (qWi G W9 ((wMd cA qM res.2)) res.1) args s 0 0 (adr W9)) (F0 m 53 ls [.int v0]) := by
  obtain ⟨hx, hb, hr, hml, hown, hts, hlocks, hK, hR, hRA⟩ := id C0
  intro zM x1 x2 x3 x4 x5 v0 H locs ls hP hD hS hl hf
  unfold f_X7_add_53 at hf
  refine lv_istore (lv' := [(6, .int v0), (0, .ref (qM 0)), (1, .int x1), (2, .int x2), (3, .int x3), (4, .int x4), (5, .int x5)]) hx hb dX7_add_53 hl (by decide) rfl (fun ls hl => ?_)
  refine lv_aload_n hx hb dX7_add_55 rfl (lv_at hl 1 rfl) ?_
  refine lv_iload hx hb dX7_add_56 (lv_at hl 0 rfl) ?_
  refine lv_if_ne (tgt := 65) hx hb dX7_add_58 (by decide) (fun c_1 => ?_) (fun c_1 => ?_)
  · rw [if_pos (c_1)] at hf
    refine lv_iload hx hb dX7_add_65 (lv_at hl 5 rfl) ?_
    refine lv_iload hx hb dX7_add_67 (lv_at hl 6 rfl) ?_
    refine lv_icmp_eq (tgt := 92) hx hb dX7_add_69 (by decide) (fun c_2 => ?_) (fun c_2 => ?_)
    · rw [if_pos (c_2)] at hf
      exact b_X7_add_92 qM   C0  zM x1 x2 x3 x4 x5 H locs ls hP hD hS (lv_sub hl [1, 2, 3, 4, 5, 6] rfl) hf
    · rw [if_neg (c_2)] at hf
      refine lv_iload hx hb dX7_add_72 (lv_at hl 5 rfl) ?_
      refine lv_iload hx hb dX7_add_74 (lv_at hl 6 rfl) ?_
      refine lv_ineg hx hb dX7_add_76 ?_
      refine lv_icmp_eq (tgt := 92) hx hb dX7_add_77 (by decide) (fun c_3 => ?_) (fun c_3 => ?_)
      · rw [if_pos (c_3)] at hf
        exact b_X7_add_92 qM   C0  zM x1 x2 x3 x4 x5 H locs ls hP hD hS (lv_sub hl [1, 2, 3, 4, 5, 6] rfl) hf
      · rw [if_neg (c_3)] at hf
        refine lv_aload_n hx hb dX7_add_80 rfl (lv_at hl 1 rfl) ?_
        refine lv_iload_n hx hb dX7_add_81 rfl (lv_at hl 4 rfl) ?_
        obtain ⟨r_4, hr_4, hf⟩ := obd hf
        refine cRiV (As := [.int x3]) (rest := [.ref (qM 0)]) ⟨hx, hb, hml, hown, hts⟩ (m_X7_isSmall l G cA qM zM x3 r_4 hr_4) (cw_X7_isSmall hts wi_847 ⟨Nat.le_of_ble_eq_true rfl, Nat.le_of_ble_eq_true rfl⟩) hK (pk hP [0, 1, 2, 3, 4] rfl) (va_recv hK.1 hP (ci := 5) (q0 := 0) rfl rfl) rfl hl.1 rfl (Nat.le_of_ble_eq_true rfl) dX7_add_82 ⟨Nat.zero_le _, Nat.zero_le _⟩ ?_
        refine lv_if_ne (tgt := 92) hx hb dX7_add_85 (by decide) (fun c_5 => ?_) (fun c_5 => ?_)
        · rw [if_pos (c_5)] at hf
          exact b_X7_add_92 qM   C0  zM x1 x2 x3 x4 x5 H locs ls hP hD hS (lv_sub hl [1, 2, 3, 4, 5, 6] rfl) hf
        · rw [if_neg (not_not_intro c_5)] at hf
          refine lv_iconst (v := 2) hx hb dX7_add_88 (by decide) ?_
          refine lv_goto (tgt := 93) hx hb dX7_add_89 (by decide) ?_
          exact b_X7_add_93 qM   C0  zM x1 x2 x3 x4 x5 (2 : Int32) H locs ls hP hD hS (lv_sub hl [1, 2, 3, 4, 5, 6] rfl) hf
  · rw [if_neg (not_not_intro c_1)] at hf
    refine lv_iconst (v := 1) hx hb dX7_add_61 (by decide) ?_
    refine lv_goto (tgt := 93) hx hb dX7_add_62 (by decide) ?_
    exact b_X7_add_93 qM   C0  zM x1 x2 x3 x4 x5 (1 : Int32) H locs ls hP hD hS (lv_sub hl [1, 2, 3, 4, 5, 6] rfl) hf
def f_X7_add_52 (zM : MdS) (x1 : Int32) (x2 : Int32) (x3 : Int32) (x4 : Int32) (x5 : Int32) : Option (Int32 × MdS) := f_X7_add_53  zM x1 x2 x3 x4 x5 (0 : Int32)
set_option maxHeartbeats 4000000 in
set_option maxRecDepth 100000 in
theorem b_X7_add_52 {p : Program} {l : Launch} {e : Env} {s : State} {m : MethodId} {args : Array Value} {below : List Frame} {meth : Method} {c : Code} {G : va_G} {cA : Nat → ClassId} {W9 : va_W} (qM : Nat → Nat) (C0 : Amb p s m args meth c cX7_add RX7 16 (some .int) G cA (adr W9) []) {res : Int32 × MdS} : ∀ (zM : MdS) (x1 : Int32) (x2 : Int32) (x3 : Int32) (x4 : Int32) (x5 : Int32) (H : Heap) (locs : List Loc) (ls : Array Slot), va_P G vwCl ((wMd cA qM zM)) H → va_D (adr W9) ((wMd cA qM zM)) → va_S (adr W9) s.heap H locs → lv_has ls 16 [(0, .ref (qM 0)), (1, .int x1), (2, .int x2), (3, .int x3), (4, .int x4), (5, .int x5)] → f_X7_add_52 zM x1 x2 x3 x4 x5 = some res → W p l e rm_X7_add s m args below meth c H locs 0 0 (MQ below (qWi G W9 ((wMd cA qM res.2)) res.1) args s 0 0 (adr W9)) (F0 m 52 ls []) := by
  obtain ⟨hx, hb, hr, hml, hown, hts, hlocks, hK, hR, hRA⟩ := id C0
  intro zM x1 x2 x3 x4 x5 H locs ls hP hD hS hl hf
  unfold f_X7_add_52 at hf
  refine lv_iconst (v := 0) hx hb dX7_add_52 (by decide) ?_
  exact b_X7_add_53 qM   C0  zM x1 x2 x3 x4 x5 (0 : Int32) H locs ls hP hD hS (lv_sub hl [0, 1, 2, 3, 4, 5] rfl) hf
def f_X7_add (zM : MdS) (a1 : Int32) (a2 : Int32) (a3 : Int32) (a4 : Int32) (a5 : Int32) : Option (Int32 × MdS) := (f_X7_isSlot a1).bind fun r_1 => if r_1 = 0 then f_X7_add_52  zM a1 a2 a3 a4 a5 else (f_X7_isSlot a2).bind fun r_3 => if r_3 = 0 then f_X7_add_52  zM a1 a2 a3 a4 a5 else (f_X7_isSlot a3).bind fun r_5 => if r_5 = 0 then f_X7_add_52  zM a1 a2 a3 a4 a5 else if a4 < (-100 : Int32) then f_X7_add_52  zM a1 a2 a3 a4 a5 else if (100 : Int32) < a4 then f_X7_add_52  zM a1 a2 a3 a4 a5 else if a5 < (1 : Int32) then f_X7_add_52  zM a1 a2 a3 a4 a5 else if (6 : Int32) < a5 then f_X7_add_52  zM a1 a2 a3 a4 a5 else f_X7_add_53  zM a1 a2 a3 a4 a5 (1 : Int32)
set_option maxHeartbeats 4000000 in
set_option maxRecDepth 100000 in
theorem b_X7_add_0 {p : Program} {l : Launch} {e : Env} {s : State} {m : MethodId} {args : Array Value} {below : List Frame} {meth : Method} {c : Code} {G : va_G} {cA : Nat → ClassId} {W9 : va_W} (qM : Nat → Nat) (C0 : Amb p s m args meth c cX7_add RX7 16 (some .int) G cA (adr W9) []) {res : Int32 × MdS} : ∀ (zM : MdS) (a1 : Int32) (a2 : Int32) (a3 : Int32) (a4 : Int32) (a5 : Int32) (H : Heap) (locs : List Loc) (ls : Array Slot), va_P G vwCl ((wMd cA qM zM)) H → va_D (adr W9) ((wMd cA qM zM)) → va_S (adr W9) s.heap H locs → lv_has ls 16 [(0, .ref (qM 0)), (1, .int a1), (2, .int a2), (3, .int a3), (4, .int a4), (5, .int a5)] → f_X7_add zM a1 a2 a3 a4 a5 = some res → W p l e rm_X7_add s m args below meth c H locs 0 0 (MQ below (qWi G W9 ((wMd cA qM res.2)) res.1) args s 0 0 (adr W9)) (F0 m 0 ls []) := by
  obtain ⟨hx, hb, hr, hml, hown, hts, hlocks, hK, hR, hRA⟩ := id C0
  intro zM a1 a2 a3 a4 a5 H locs ls hP hD hS hl hf
  unfold f_X7_add at hf
  refine lv_iload_n hx hb dX7_add_0 rfl (lv_at hl 1 rfl) ?_
  obtain ⟨r_1, hr_1, hf⟩ := obd hf
  refine cRiS (As := [.int a1]) (rest := []) ⟨hx, hb, hml, hown, hts⟩ (m_X7_isSlot l G cA a1 r_1 hr_1) (cw_X7_isSlot hts wi_735 ⟨Nat.le_of_ble_eq_true rfl, Nat.le_of_ble_eq_true rfl⟩) hK va_Pnil rfl hl.1 rfl (Nat.le_of_ble_eq_true rfl) dX7_add_1 ⟨Nat.zero_le _, Nat.zero_le _⟩ ?_
  refine lv_if_eq (tgt := 52) hx hb dX7_add_4 (by decide) (fun c_2 => ?_) (fun c_2 => ?_)
  · rw [if_pos (c_2)] at hf
    exact b_X7_add_52 qM   C0  zM a1 a2 a3 a4 a5 H locs ls hP hD hS (lv_sub hl [0, 1, 2, 3, 4, 5] rfl) hf
  · rw [if_neg (c_2)] at hf
    refine lv_iload_n hx hb dX7_add_7 rfl (lv_at hl 2 rfl) ?_
    obtain ⟨r_3, hr_3, hf⟩ := obd hf
    refine cRiS (As := [.int a2]) (rest := []) ⟨hx, hb, hml, hown, hts⟩ (m_X7_isSlot l G cA a2 r_3 hr_3) (cw_X7_isSlot hts wi_735 ⟨Nat.le_of_ble_eq_true rfl, Nat.le_of_ble_eq_true rfl⟩) hK va_Pnil rfl hl.1 rfl (Nat.le_of_ble_eq_true rfl) dX7_add_8 ⟨Nat.zero_le _, Nat.zero_le _⟩ ?_
    refine lv_if_eq (tgt := 52) hx hb dX7_add_11 (by decide) (fun c_4 => ?_) (fun c_4 => ?_)
    · rw [if_pos (c_4)] at hf
      exact b_X7_add_52 qM   C0  zM a1 a2 a3 a4 a5 H locs ls hP hD hS (lv_sub hl [0, 1, 2, 3, 4, 5] rfl) hf
    · rw [if_neg (c_4)] at hf
      refine lv_iload_n hx hb dX7_add_14 rfl (lv_at hl 3 rfl) ?_
      obtain ⟨r_5, hr_5, hf⟩ := obd hf
      refine cRiS (As := [.int a3]) (rest := []) ⟨hx, hb, hml, hown, hts⟩ (m_X7_isSlot l G cA a3 r_5 hr_5) (cw_X7_isSlot hts wi_735 ⟨Nat.le_of_ble_eq_true rfl, Nat.le_of_ble_eq_true rfl⟩) hK va_Pnil rfl hl.1 rfl (Nat.le_of_ble_eq_true rfl) dX7_add_15 ⟨Nat.zero_le _, Nat.zero_le _⟩ ?_
      refine lv_if_eq (tgt := 52) hx hb dX7_add_18 (by decide) (fun c_6 => ?_) (fun c_6 => ?_)
      · rw [if_pos (c_6)] at hf
        exact b_X7_add_52 qM   C0  zM a1 a2 a3 a4 a5 H locs ls hP hD hS (lv_sub hl [0, 1, 2, 3, 4, 5] rfl) hf
      · rw [if_neg (c_6)] at hf
        refine lv_iload hx hb dX7_add_21 (lv_at hl 4 rfl) ?_
        refine lv_bipush (v := (-100 : Int32)) hx hb dX7_add_23 (by decide) ?_
        refine lv_icmp_lt (tgt := 52) hx hb dX7_add_25 (by decide) (fun c_7 => ?_) (fun c_7 => ?_)
        · rw [if_pos (c_7)] at hf
          exact b_X7_add_52 qM   C0  zM a1 a2 a3 a4 a5 H locs ls hP hD hS (lv_sub hl [0, 1, 2, 3, 4, 5] rfl) hf
        · rw [if_neg (c_7)] at hf
          refine lv_iload hx hb dX7_add_28 (lv_at hl 4 rfl) ?_
          refine lv_bipush (v := (100 : Int32)) hx hb dX7_add_30 (by decide) ?_
          refine lv_icmp_gt (tgt := 52) hx hb dX7_add_32 (by decide) (fun c_8 => ?_) (fun c_8 => ?_)
          · rw [if_pos (c_8)] at hf
            exact b_X7_add_52 qM   C0  zM a1 a2 a3 a4 a5 H locs ls hP hD hS (lv_sub hl [0, 1, 2, 3, 4, 5] rfl) hf
          · rw [if_neg (c_8)] at hf
            refine lv_iload hx hb dX7_add_35 (lv_at hl 5 rfl) ?_
            refine lv_iconst (v := 1) hx hb dX7_add_37 (by decide) ?_
            refine lv_icmp_lt (tgt := 52) hx hb dX7_add_38 (by decide) (fun c_9 => ?_) (fun c_9 => ?_)
            · rw [if_pos (c_9)] at hf
              exact b_X7_add_52 qM   C0  zM a1 a2 a3 a4 a5 H locs ls hP hD hS (lv_sub hl [0, 1, 2, 3, 4, 5] rfl) hf
            · rw [if_neg (c_9)] at hf
              refine lv_iload hx hb dX7_add_41 (lv_at hl 5 rfl) ?_
              refine lv_bipush (v := (6 : Int32)) hx hb dX7_add_43 (by decide) ?_
              refine lv_icmp_gt (tgt := 52) hx hb dX7_add_45 (by decide) (fun c_10 => ?_) (fun c_10 => ?_)
              · rw [if_pos (c_10)] at hf
                exact b_X7_add_52 qM   C0  zM a1 a2 a3 a4 a5 H locs ls hP hD hS (lv_sub hl [0, 1, 2, 3, 4, 5] rfl) hf
              · rw [if_neg (c_10)] at hf
                refine lv_iconst (v := 1) hx hb dX7_add_48 (by decide) ?_
                refine lv_goto (tgt := 53) hx hb dX7_add_49 (by decide) ?_
                exact b_X7_add_53 qM   C0  zM a1 a2 a3 a4 a5 (1 : Int32) H locs ls hP hD hS (lv_sub hl [0, 1, 2, 3, 4, 5] rfl) hf

set_option maxRecDepth 100000 in
theorem m_X7_add (l : Launch) (G : va_G) (cA : Nat → ClassId) (qM : Nat → Nat) (zM : MdS) (a1 : Int32) (a2 : Int32) (a3 : Int32) (a4 : Int32) (a5 : Int32) (res : Int32 × MdS) (hf : f_X7_add zM a1 a2 a3 a4 a5 = some res) : MWi l yX7_add (.code yX7_add cX7_add 16 (some .int) :: wd) rm_X7_add G cA [.ref (qM 0), .int a1, .int a2, .int a3, .int a4, .int a5] ((wMd cA qM zM)) [] ((wMd cA qM res.2)) res.1 := by
  refine Met.ofW (cc := cX7_add) (maxL := 16) (ret := (some .int)) (by decide) rfl ?_
  intro p e s m args below meth c s₁ B hml hv
  obtain ⟨rfl, hK, hP, hD0, hR, hRA⟩ := hv
  have C0 : Amb p s m ([.ref (qM 0), .int a1, .int a2, .int a3, .int a4, .int a5] : List Value).toArray meth c cX7_add RX7 16 (some .int) G cA (adr ((wMd cA qM zM))) [] := ⟨B.exec, B.bytes, B.returns, hml, findClass_of_methodNamed B.named, fun w h => atoms_spec (ws := (.code yX7_add cX7_add 16 (some .int) :: wd)) B.pre w (List.mem_cons_of_mem _ h), B.notSynchronized, hK, hR, hRA⟩
  have hl := lv_entry ([.ref (qM 0), .int a1, .int a2, .int a3, .int a4, .int a5]) (n := 16) (Nat.le_of_ble_eq_true rfl)
  rw [lg_entry_eq]
  generalize (lg_sl ([.ref (qM 0), .int a1, .int a2, .int a3, .int a4, .int a5]) ++ List.replicate (16 - (lg_sl ([.ref (qM 0), .int a1, .int a2, .int a3, .int a4, .int a5])).length) Slot.unset).toArray = ls at hl ⊢
  have hl : lv_has ls 16 [(0, .ref (qM 0)), (1, .int a1), (2, .int a2), (3, .int a3), (4, .int a4), (5, .int a5)] := hl
  exact b_X7_add_0 (W9 := ((wMd cA qM zM))) qM   C0 zM a1 a2 a3 a4 a5 s.heap [] ls hP (adr.self hD0) va_S.rf hl hf
theorem cw_X7_add {R : Room} {s : State} {args : Array Value} {own : String} {index : Nat} (ht : ∀ w ∈ wd, w.before args s = true) (hlink : Cond.methodLink own index yX7_add ∈ wd) (hR : rm_X7_add.frames + 1 ≤ R.frames ∧ 8 + (16 + 11) + rm_X7_add.locals ≤ R.locals) : CallW R s args own RX7 index yX7_add cX7_add 16 (some .int) (.code yX7_add cX7_add 16 (some .int) :: wd) rm_X7_add 0 0 5 := cwV9 5 ht wi_846 wi_844 wi_845 wi_60 hlink (by decide +kernel) rfl rfl hR
def rm_X7_multiply : Room := { frames := 2, cells := 0, slots := 0, locals := 68 }
def f_X7_multiply_191 (zM : MdS) (x3 : Int32) (x4 : Int64) (x6 : Int64) (x12 : Int32) (v0 : Int32) : Option (MdS) := (f_X7_addTerm zM (8 : Int32) (3 : Int32) (x12 + v0) x3 x4 ((2 : Int64) * x6)).bind fun r_1 => (f_X7_addTerm r_1 (8 : Int32) (3 : Int32) (x12 - v0) x3 x4 ((2 : Int64) * x6)).bind fun r_2 => some r_2
set_option maxHeartbeats 4000000 in
set_option maxRecDepth 100000 in
theorem b_X7_multiply_191 {p : Program} {l : Launch} {e : Env} {s : State} {m : MethodId} {args : Array Value} {below : List Frame} {meth : Method} {c : Code} {G : va_G} {cA : Nat → ClassId} {W9 : va_W} (qM : Nat → Nat) (C0 : Amb p s m args meth c cX7_multiply RX7 14 none G cA (adr W9) []) {res : MdS} : ∀ (zM : MdS) (x3 : Int32) (x4 : Int64) (x6 : Int64) (x12 : Int32) (v0 : Int32) (H : Heap) (locs : List Loc) (ls : Array Slot), va_P G vwCl ((wMd cA qM zM)) H → va_D (adr W9) ((wMd cA qM zM)) → va_S (adr W9) s.heap H locs → lv_has ls 14 [(0, .ref (qM 0)), (3, .int x3), (4, .long x4), (6, .long x6), (12, .int x12)] → f_X7_multiply_191 zM x3 x4 x6 x12 v0 = some res → W p l e rm_X7_multiply s m args below meth c H locs 0 0 (MQ below (qWv G W9 ((wMd cA qM res))) args s 0 0 (adr W9)) (F0 m 191 ls [.int v0]) := by
  obtain ⟨hx, hb, hr, hml, hown, hts, hlocks, hK, hR, hRA⟩ := id C0
  intro zM x3 x4 x6 x12 v0 H locs ls hP hD hS hl hf
  unfold f_X7_multiply_191 at hf
  refine lv_istore (lv' := [(13, .int v0), (0, .ref (qM 0)), (3, .int x3), (4, .long x4), (6, .long x6), (12, .int x12)]) hx hb dX7_multiply_191 hl (by decide) rfl (fun ls hl => ?_)
  refine lv_aload_n hx hb dX7_multiply_193 rfl (lv_at hl 1 rfl) ?_
  refine lv_bipush (v := (8 : Int32)) hx hb dX7_multiply_194 (by decide) ?_
  refine lv_iconst (v := 3) hx hb dX7_multiply_196 (by decide) ?_
  refine lv_iload hx hb dX7_multiply_197 (lv_at hl 5 rfl) ?_
  refine lv_iload hx hb dX7_multiply_199 (lv_at hl 0 rfl) ?_
  refine lv_iadd hx hb dX7_multiply_201 ?_
  refine lv_iload_n hx hb dX7_multiply_202 rfl (lv_at hl 2 rfl) ?_
  refine lv_lload hx hb dX7_multiply_203 (lv_at hl 3 rfl) ?_
  refine lv_ldc2 (v := (2 : Int64)) hx hb hown (hts _ wi_865) dX7_multiply_205 ?_
  refine lv_lload hx hb dX7_multiply_208 (lv_at hl 4 rfl) ?_
  refine lv_lmul hx hb dX7_multiply_210 ?_
  obtain ⟨r_1, hr_1, hf⟩ := obd hf
  refine cWvV (As := [.int (8 : Int32), .int (3 : Int32), .int (x12 + v0), .int x3, .long x4, .long ((2 : Int64) * x6)]) (rest := []) (W1 := ((wMd cA qM r_1))) ⟨hx, hb, hml, hown, hts⟩ (m_X7_addTerm l G cA qM zM (8 : Int32) (3 : Int32) (x12 + v0) x3 x4 ((2 : Int64) * x6) r_1 hr_1) (cw_X7_addTerm hts wi_772 ⟨Nat.le_of_ble_eq_true rfl, Nat.le_of_ble_eq_true rfl⟩) hK hP hD hS [0, 1, 2, 3, 4] [5, 6, 7, 8, 9] rfl rfl rfl (by decide) rfl va_Pnil dj_nil (va_recv hK.1 hP (ci := 5) (q0 := 0) rfl rfl) rfl hl.1 rfl (Nat.le_of_ble_eq_true rfl) dX7_multiply_211 ⟨Nat.zero_le _, Nat.zero_le _⟩ (fun H locs hP hD hS => ?_)
  refine lv_aload_n hx hb dX7_multiply_214 rfl (lv_at hl 1 rfl) ?_
  refine lv_bipush (v := (8 : Int32)) hx hb dX7_multiply_215 (by decide) ?_
  refine lv_iconst (v := 3) hx hb dX7_multiply_217 (by decide) ?_
  refine lv_iload hx hb dX7_multiply_218 (lv_at hl 5 rfl) ?_
  refine lv_iload hx hb dX7_multiply_220 (lv_at hl 0 rfl) ?_
  refine lv_isub hx hb dX7_multiply_222 ?_
  refine lv_iload_n hx hb dX7_multiply_223 rfl (lv_at hl 2 rfl) ?_
  refine lv_lload hx hb dX7_multiply_224 (lv_at hl 3 rfl) ?_
  refine lv_ldc2 (v := (2 : Int64)) hx hb hown (hts _ wi_865) dX7_multiply_226 ?_
  refine lv_lload hx hb dX7_multiply_229 (lv_at hl 4 rfl) ?_
  refine lv_lmul hx hb dX7_multiply_231 ?_
  obtain ⟨r_2, hr_2, hf⟩ := obd hf
  refine cWvV (As := [.int (8 : Int32), .int (3 : Int32), .int (x12 - v0), .int x3, .long x4, .long ((2 : Int64) * x6)]) (rest := []) (W1 := ((wMd cA qM r_2))) ⟨hx, hb, hml, hown, hts⟩ (m_X7_addTerm l G cA qM r_1 (8 : Int32) (3 : Int32) (x12 - v0) x3 x4 ((2 : Int64) * x6) r_2 hr_2) (cw_X7_addTerm hts wi_772 ⟨Nat.le_of_ble_eq_true rfl, Nat.le_of_ble_eq_true rfl⟩) hK hP hD hS [0, 1, 2, 3, 4] [5, 6, 7, 8, 9] rfl rfl rfl (by decide) rfl va_Pnil dj_nil (va_recv hK.1 hP (ci := 5) (q0 := 0) rfl rfl) rfl hl.1 rfl (Nat.le_of_ble_eq_true rfl) dX7_multiply_232 ⟨Nat.zero_le _, Nat.zero_le _⟩ (fun H locs hP hD hS => ?_)
  cases hf
  exact W.vret hx hb hr (fun t ht hW => ⟨⟨(), rfl, trivial, toT ht hP⟩, hS.F ht⟩) hS.2.2 dX7_multiply_235 hlocks
def f_X7_multiply_176 (zM : MdS) (x3 : Int32) (x4 : Int64) (x6 : Int64) (x8 : Int32) (x10 : Int32) (x11 : Int32) (v0 : Int32) : Option (MdS) := if ¬ x8 = (3 : Int32) then f_X7_multiply_191  zM x3 x4 x6 v0 x10 else f_X7_multiply_191  zM x3 x4 x6 v0 x11
set_option maxHeartbeats 4000000 in
set_option maxRecDepth 100000 in
theorem b_X7_multiply_176 {p : Program} {l : Launch} {e : Env} {s : State} {m : MethodId} {args : Array Value} {below : List Frame} {meth : Method} {c : Code} {G : va_G} {cA : Nat → ClassId} {W9 : va_W} (qM : Nat → Nat) (C0 : Amb p s m args meth c cX7_multiply RX7 14 none G cA (adr W9) []) {res : MdS} : ∀ (zM : MdS) (x3 : Int32) (x4 : Int64) (x6 : Int64) (x8 : Int32) (x10 : Int32) (x11 : Int32) (v0 : Int32) (H : Heap) (locs : List Loc) (ls : Array Slot), va_P G vwCl ((wMd cA qM zM)) H → va_D (adr W9) ((wMd cA qM zM)) → va_S (adr W9) s.heap H locs → lv_has ls 14 [(0, .ref (qM 0)), (3, .int x3), (4, .long x4), (6, .long x6), (8, .int x8), (10, .int x10), (11, .int x11)] → f_X7_multiply_176 zM x3 x4 x6 x8 x10 x11 v0 = some res → W p l e rm_X7_multiply s m args below meth c H locs 0 0 (MQ below (qWv G W9 ((wMd cA qM res))) args s 0 0 (adr W9)) (F0 m 176 ls [.int v0]) := by
  obtain ⟨hx, hb, hr, hml, hown, hts, hlocks, hK, hR, hRA⟩ := id C0
  intro zM x3 x4 x6 x8 x10 x11 v0 H locs ls hP hD hS hl hf
  unfold f_X7_multiply_176 at hf
  refine lv_istore (lv' := [(12, .int v0), (0, .ref (qM 0)), (3, .int x3), (4, .long x4), (6, .long x6), (8, .int x8), (10, .int x10), (11, .int x11)]) hx hb dX7_multiply_176 hl (by decide) rfl (fun ls hl => ?_)
  refine lv_iload hx hb dX7_multiply_178 (lv_at hl 5 rfl) ?_
  refine lv_iconst (v := 3) hx hb dX7_multiply_180 (by decide) ?_
  refine lv_icmp_ne (tgt := 189) hx hb dX7_multiply_181 (by decide) (fun c_1 => ?_) (fun c_1 => ?_)
  · rw [if_pos (c_1)] at hf
    refine lv_iload hx hb dX7_multiply_189 (lv_at hl 6 rfl) ?_
    exact b_X7_multiply_191 qM   C0  zM x3 x4 x6 v0 x10 H locs ls hP hD hS (lv_sub hl [1, 2, 3, 4, 0] rfl) hf
  · rw [if_neg (not_not_intro c_1)] at hf
    refine lv_iload hx hb dX7_multiply_184 (lv_at hl 7 rfl) ?_
    refine lv_goto (tgt := 191) hx hb dX7_multiply_186 (by decide) ?_
    exact b_X7_multiply_191 qM   C0  zM x3 x4 x6 v0 x11 H locs ls hP hD hS (lv_sub hl [1, 2, 3, 4, 0] rfl) hf
def f_X7_multiply_151 (zM : MdS) (x6 : Int64) (v1 : Int32) (v2 : Int32) (v3 : Int32) (v4 : Int32) (v5 : Int64) : Option (MdS) := (f_X7_addTerm zM v1 v2 v3 v4 v5 ((2 : Int64) * x6)).bind fun r_1 => some r_1
set_option maxHeartbeats 4000000 in
set_option maxRecDepth 100000 in
theorem b_X7_multiply_151 {p : Program} {l : Launch} {e : Env} {s : State} {m : MethodId} {args : Array Value} {below : List Frame} {meth : Method} {c : Code} {G : va_G} {cA : Nat → ClassId} {W9 : va_W} (qM : Nat → Nat) (C0 : Amb p s m args meth c cX7_multiply RX7 14 none G cA (adr W9) []) {res : MdS} : ∀ (zM : MdS) (x6 : Int64) (v1 : Int32) (v2 : Int32) (v3 : Int32) (v4 : Int32) (v5 : Int64) (H : Heap) (locs : List Loc) (ls : Array Slot), va_P G vwCl ((wMd cA qM zM)) H → va_D (adr W9) ((wMd cA qM zM)) → va_S (adr W9) s.heap H locs → lv_has ls 14 [(6, .long x6)] → f_X7_multiply_151 zM x6 v1 v2 v3 v4 v5 = some res → W p l e rm_X7_multiply s m args below meth c H locs 0 0 (MQ below (qWv G W9 ((wMd cA qM res))) args s 0 0 (adr W9)) (F0 m 151 ls [.long v5, .int v4, .int v3, .int v2, .int v1, .ref (qM 0)]) := by
  obtain ⟨hx, hb, hr, hml, hown, hts, hlocks, hK, hR, hRA⟩ := id C0
  intro zM x6 v1 v2 v3 v4 v5 H locs ls hP hD hS hl hf
  unfold f_X7_multiply_151 at hf
  refine lv_ldc2 (v := (2 : Int64)) hx hb hown (hts _ wi_865) dX7_multiply_151 ?_
  refine lv_lload hx hb dX7_multiply_154 (lv_at hl 0 rfl) ?_
  refine lv_lmul hx hb dX7_multiply_156 ?_
  obtain ⟨r_1, hr_1, hf⟩ := obd hf
  refine cWvV (As := [.int v1, .int v2, .int v3, .int v4, .long v5, .long ((2 : Int64) * x6)]) (rest := []) (W1 := ((wMd cA qM r_1))) ⟨hx, hb, hml, hown, hts⟩ (m_X7_addTerm l G cA qM zM v1 v2 v3 v4 v5 ((2 : Int64) * x6) r_1 hr_1) (cw_X7_addTerm hts wi_772 ⟨Nat.le_of_ble_eq_true rfl, Nat.le_of_ble_eq_true rfl⟩) hK hP hD hS [0, 1, 2, 3, 4] [5, 6, 7, 8, 9] rfl rfl rfl (by decide) rfl va_Pnil dj_nil (va_recv hK.1 hP (ci := 5) (q0 := 0) rfl rfl) rfl hl.1 rfl (Nat.le_of_ble_eq_true rfl) dX7_multiply_157 ⟨Nat.zero_le _, Nat.zero_le _⟩ (fun H locs hP hD hS => ?_)
  refine lv_goto (tgt := 235) hx hb dX7_multiply_160 (by decide) ?_
  cases hf
  exact W.vret hx hb hr (fun t ht hW => ⟨⟨(), rfl, trivial, toT ht hP⟩, hS.F ht⟩) hS.2.2 dX7_multiply_235 hlocks
def f_X7_multiply_61 (zM : MdS) (x3 : Int32) (x4 : Int64) (x6 : Int64) (v1 : Int32) (v2 : Int32) (v3 : Int32) : Option (MdS) := (f_X7_addTerm zM v1 v2 v3 x3 x4 x6).bind fun r_1 => some r_1
set_option maxHeartbeats 4000000 in
set_option maxRecDepth 100000 in
theorem b_X7_multiply_61 {p : Program} {l : Launch} {e : Env} {s : State} {m : MethodId} {args : Array Value} {below : List Frame} {meth : Method} {c : Code} {G : va_G} {cA : Nat → ClassId} {W9 : va_W} (qM : Nat → Nat) (C0 : Amb p s m args meth c cX7_multiply RX7 14 none G cA (adr W9) []) {res : MdS} : ∀ (zM : MdS) (x3 : Int32) (x4 : Int64) (x6 : Int64) (v1 : Int32) (v2 : Int32) (v3 : Int32) (H : Heap) (locs : List Loc) (ls : Array Slot), va_P G vwCl ((wMd cA qM zM)) H → va_D (adr W9) ((wMd cA qM zM)) → va_S (adr W9) s.heap H locs → lv_has ls 14 [(3, .int x3), (4, .long x4), (6, .long x6)] → f_X7_multiply_61 zM x3 x4 x6 v1 v2 v3 = some res → W p l e rm_X7_multiply s m args below meth c H locs 0 0 (MQ below (qWv G W9 ((wMd cA qM res))) args s 0 0 (adr W9)) (F0 m 61 ls [.int v3, .int v2, .int v1, .ref (qM 0)]) := by
  obtain ⟨hx, hb, hr, hml, hown, hts, hlocks, hK, hR, hRA⟩ := id C0
  intro zM x3 x4 x6 v1 v2 v3 H locs ls hP hD hS hl hf
  unfold f_X7_multiply_61 at hf
  refine lv_iload_n hx hb dX7_multiply_61 rfl (lv_at hl 0 rfl) ?_
  refine lv_lload hx hb dX7_multiply_62 (lv_at hl 1 rfl) ?_
  refine lv_lload hx hb dX7_multiply_64 (lv_at hl 2 rfl) ?_
  obtain ⟨r_1, hr_1, hf⟩ := obd hf
  refine cWvV (As := [.int v1, .int v2, .int v3, .int x3, .long x4, .long x6]) (rest := []) (W1 := ((wMd cA qM r_1))) ⟨hx, hb, hml, hown, hts⟩ (m_X7_addTerm l G cA qM zM v1 v2 v3 x3 x4 x6 r_1 hr_1) (cw_X7_addTerm hts wi_772 ⟨Nat.le_of_ble_eq_true rfl, Nat.le_of_ble_eq_true rfl⟩) hK hP hD hS [0, 1, 2, 3, 4] [5, 6, 7, 8, 9] rfl rfl rfl (by decide) rfl va_Pnil dj_nil (va_recv hK.1 hP (ci := 5) (q0 := 0) rfl rfl) rfl hl.1 rfl (Nat.le_of_ble_eq_true rfl) dX7_multiply_66 ⟨Nat.zero_le _, Nat.zero_le _⟩ (fun H locs hP hD hS => ?_)
  refine lv_goto (tgt := 235) hx hb dX7_multiply_69 (by decide) ?_
  cases hf
  exact W.vret hx hb hr (fun t ht hW => ⟨⟨(), rfl, trivial, toT ht hP⟩, hS.F ht⟩) hS.2.2 dX7_multiply_235 hlocks
def f_X7_multiply_49 (zM : MdS) (x3 : Int32) (x4 : Int64) (x6 : Int64) (x8 : Int32) (x10 : Int32) (x11 : Int32) (v1 : Int32) (v2 : Int32) : Option (MdS) := if ¬ x8 = 0 then f_X7_multiply_61  zM x3 x4 x6 v1 v2 x10 else f_X7_multiply_61  zM x3 x4 x6 v1 v2 x11
set_option maxHeartbeats 4000000 in
set_option maxRecDepth 100000 in
theorem b_X7_multiply_49 {p : Program} {l : Launch} {e : Env} {s : State} {m : MethodId} {args : Array Value} {below : List Frame} {meth : Method} {c : Code} {G : va_G} {cA : Nat → ClassId} {W9 : va_W} (qM : Nat → Nat) (C0 : Amb p s m args meth c cX7_multiply RX7 14 none G cA (adr W9) []) {res : MdS} : ∀ (zM : MdS) (x3 : Int32) (x4 : Int64) (x6 : Int64) (x8 : Int32) (x10 : Int32) (x11 : Int32) (v1 : Int32) (v2 : Int32) (H : Heap) (locs : List Loc) (ls : Array Slot), va_P G vwCl ((wMd cA qM zM)) H → va_D (adr W9) ((wMd cA qM zM)) → va_S (adr W9) s.heap H locs → lv_has ls 14 [(3, .int x3), (4, .long x4), (6, .long x6), (8, .int x8), (10, .int x10), (11, .int x11)] → f_X7_multiply_49 zM x3 x4 x6 x8 x10 x11 v1 v2 = some res → W p l e rm_X7_multiply s m args below meth c H locs 0 0 (MQ below (qWv G W9 ((wMd cA qM res))) args s 0 0 (adr W9)) (F0 m 49 ls [.int v2, .int v1, .ref (qM 0)]) := by
  obtain ⟨hx, hb, hr, hml, hown, hts, hlocks, hK, hR, hRA⟩ := id C0
  intro zM x3 x4 x6 x8 x10 x11 v1 v2 H locs ls hP hD hS hl hf
  unfold f_X7_multiply_49 at hf
  refine lv_iload hx hb dX7_multiply_49 (lv_at hl 3 rfl) ?_
  refine lv_if_ne (tgt := 59) hx hb dX7_multiply_51 (by decide) (fun c_1 => ?_) (fun c_1 => ?_)
  · rw [if_pos (c_1)] at hf
    refine lv_iload hx hb dX7_multiply_59 (lv_at hl 4 rfl) ?_
    exact b_X7_multiply_61 qM   C0  zM x3 x4 x6 v1 v2 x10 H locs ls hP hD hS (lv_sub hl [0, 1, 2] rfl) hf
  · rw [if_neg (not_not_intro c_1)] at hf
    refine lv_iload hx hb dX7_multiply_54 (lv_at hl 5 rfl) ?_
    refine lv_goto (tgt := 61) hx hb dX7_multiply_56 (by decide) ?_
    exact b_X7_multiply_61 qM   C0  zM x3 x4 x6 v1 v2 x11 H locs ls hP hD hS (lv_sub hl [0, 1, 2] rfl) hf
def f_X7_multiply_34 (zM : MdS) (x3 : Int32) (x4 : Int64) (x6 : Int64) (x8 : Int32) (x9 : Int32) (x10 : Int32) (x11 : Int32) : Option (MdS) := if ¬ x8 = 0 then f_X7_multiply_49  zM x3 x4 x6 x8 x10 x11 (8 : Int32) x8 else f_X7_multiply_49  zM x3 x4 x6 x8 x10 x11 (8 : Int32) x9
set_option maxHeartbeats 4000000 in
set_option maxRecDepth 100000 in
theorem b_X7_multiply_34 {p : Program} {l : Launch} {e : Env} {s : State} {m : MethodId} {args : Array Value} {below : List Frame} {meth : Method} {c : Code} {G : va_G} {cA : Nat → ClassId} {W9 : va_W} (qM : Nat → Nat) (C0 : Amb p s m args meth c cX7_multiply RX7 14 none G cA (adr W9) []) {res : MdS} : ∀ (zM : MdS) (x3 : Int32) (x4 : Int64) (x6 : Int64) (x8 : Int32) (x9 : Int32) (x10 : Int32) (x11 : Int32) (H : Heap) (locs : List Loc) (ls : Array Slot), va_P G vwCl ((wMd cA qM zM)) H → va_D (adr W9) ((wMd cA qM zM)) → va_S (adr W9) s.heap H locs → lv_has ls 14 [(0, .ref (qM 0)), (3, .int x3), (4, .long x4), (6, .long x6), (8, .int x8), (9, .int x9), (10, .int x10), (11, .int x11)] → f_X7_multiply_34 zM x3 x4 x6 x8 x9 x10 x11 = some res → W p l e rm_X7_multiply s m args below meth c H locs 0 0 (MQ below (qWv G W9 ((wMd cA qM res))) args s 0 0 (adr W9)) (F0 m 34 ls []) := by
  obtain ⟨hx, hb, hr, hml, hown, hts, hlocks, hK, hR, hRA⟩ := id C0
  intro zM x3 x4 x6 x8 x9 x10 x11 H locs ls hP hD hS hl hf
  unfold f_X7_multiply_34 at hf
  refine lv_aload_n hx hb dX7_multiply_34 rfl (lv_at hl 0 rfl) ?_
  refine lv_bipush (v := (8 : Int32)) hx hb dX7_multiply_35 (by decide) ?_
  refine lv_iload hx hb dX7_multiply_37 (lv_at hl 4 rfl) ?_
  refine lv_if_ne (tgt := 47) hx hb dX7_multiply_39 (by decide) (fun c_1 => ?_) (fun c_1 => ?_)
  · rw [if_pos (c_1)] at hf
    refine lv_iload hx hb dX7_multiply_47 (lv_at hl 4 rfl) ?_
    exact b_X7_multiply_49 qM   C0  zM x3 x4 x6 x8 x10 x11 (8 : Int32) x8 H locs ls hP hD hS (lv_sub hl [1, 2, 3, 4, 6, 7] rfl) hf
  · rw [if_neg (not_not_intro c_1)] at hf
    refine lv_iload hx hb dX7_multiply_42 (lv_at hl 5 rfl) ?_
    refine lv_goto (tgt := 49) hx hb dX7_multiply_44 (by decide) ?_
    exact b_X7_multiply_49 qM   C0  zM x3 x4 x6 x8 x10 x11 (8 : Int32) x9 H locs ls hP hD hS (lv_sub hl [1, 2, 3, 4, 6, 7] rfl) hf
def f_X7_multiply (zM : MdS) (a1 : Int32) (a2 : Int32) (a3 : Int32) (a4 : Int64) (a6 : Int64) : Option (MdS) := (f_X7_kindOf a1).bind fun r_1 => (f_X7_kindOf a2).bind fun r_2 => (f_X7_countOf a1).bind fun r_3 => (f_X7_countOf a2).bind fun r_4 => if r_1 = 0 then f_X7_multiply_34  zM a3 a4 a6 r_1 r_2 r_3 r_4 else if ¬ r_2 = 0 then if (3 : Int32) ≤ r_1 then if ¬ r_1 = r_2 then if ¬ r_1 = (3 : Int32) then f_X7_multiply_176  zM a3 a4 a6 r_1 r_3 r_4 r_4 else f_X7_multiply_176  zM a3 a4 a6 r_1 r_3 r_4 r_3 else (f_X7_addTerm zM (8 : Int32) (4 : Int32) (r_3 - r_4) a3 a4 ((2 : Int64) * a6)).bind fun r_10 => if ¬ r_1 = (3 : Int32) then f_X7_multiply_151  r_10 a6 (8 : Int32) (4 : Int32) (r_3 + r_4) a3 a4 else f_X7_multiply_151  r_10 a6 (8 : Int32) (4 : Int32) (r_3 + r_4) a3 (-a4) else (f_X7_addTerm zM (8 : Int32) r_1 (r_3 + r_4) a3 a4 a6).bind fun r_12 => some r_12 else f_X7_multiply_34  zM a3 a4 a6 r_1 r_2 r_3 r_4
set_option maxHeartbeats 4000000 in
set_option maxRecDepth 100000 in
theorem b_X7_multiply_0 {p : Program} {l : Launch} {e : Env} {s : State} {m : MethodId} {args : Array Value} {below : List Frame} {meth : Method} {c : Code} {G : va_G} {cA : Nat → ClassId} {W9 : va_W} (qM : Nat → Nat) (C0 : Amb p s m args meth c cX7_multiply RX7 14 none G cA (adr W9) []) {res : MdS} : ∀ (zM : MdS) (a1 : Int32) (a2 : Int32) (a3 : Int32) (a4 : Int64) (a6 : Int64) (H : Heap) (locs : List Loc) (ls : Array Slot), va_P G vwCl ((wMd cA qM zM)) H → va_D (adr W9) ((wMd cA qM zM)) → va_S (adr W9) s.heap H locs → lv_has ls 14 [(0, .ref (qM 0)), (1, .int a1), (2, .int a2), (3, .int a3), (4, .long a4), (6, .long a6)] → f_X7_multiply zM a1 a2 a3 a4 a6 = some res → W p l e rm_X7_multiply s m args below meth c H locs 0 0 (MQ below (qWv G W9 ((wMd cA qM res))) args s 0 0 (adr W9)) (F0 m 0 ls []) := by
  obtain ⟨hx, hb, hr, hml, hown, hts, hlocks, hK, hR, hRA⟩ := id C0
  intro zM a1 a2 a3 a4 a6 H locs ls hP hD hS hl hf
  unfold f_X7_multiply at hf
  refine lv_iload_n hx hb dX7_multiply_0 rfl (lv_at hl 1 rfl) ?_
  obtain ⟨r_1, hr_1, hf⟩ := obd hf
  refine cRiS (As := [.int a1]) (rest := []) ⟨hx, hb, hml, hown, hts⟩ (m_X7_kindOf l G cA a1 r_1 hr_1) (cw_X7_kindOf hts wi_833 ⟨Nat.le_of_ble_eq_true rfl, Nat.le_of_ble_eq_true rfl⟩) hK va_Pnil rfl hl.1 rfl (Nat.le_of_ble_eq_true rfl) dX7_multiply_1 ⟨Nat.zero_le _, Nat.zero_le _⟩ ?_
  refine lv_istore (lv' := [(8, .int r_1), (0, .ref (qM 0)), (1, .int a1), (2, .int a2), (3, .int a3), (4, .long a4), (6, .long a6)]) hx hb dX7_multiply_4 hl (by decide) rfl (fun ls hl => ?_)
  refine lv_iload_n hx hb dX7_multiply_6 rfl (lv_at hl 3 rfl) ?_
  obtain ⟨r_2, hr_2, hf⟩ := obd hf
  refine cRiS (As := [.int a2]) (rest := []) ⟨hx, hb, hml, hown, hts⟩ (m_X7_kindOf l G cA a2 r_2 hr_2) (cw_X7_kindOf hts wi_833 ⟨Nat.le_of_ble_eq_true rfl, Nat.le_of_ble_eq_true rfl⟩) hK va_Pnil rfl hl.1 rfl (Nat.le_of_ble_eq_true rfl) dX7_multiply_7 ⟨Nat.zero_le _, Nat.zero_le _⟩ ?_
  refine lv_istore (lv' := [(9, .int r_2), (8, .int r_1), (0, .ref (qM 0)), (1, .int a1), (2, .int a2), (3, .int a3), (4, .long a4), (6, .long a6)]) hx hb dX7_multiply_10 hl (by decide) rfl (fun ls hl => ?_)
  refine lv_iload_n hx hb dX7_multiply_12 rfl (lv_at hl 3 rfl) ?_
  obtain ⟨r_3, hr_3, hf⟩ := obd hf
  refine cRiS (As := [.int a1]) (rest := []) ⟨hx, hb, hml, hown, hts⟩ (m_X7_countOf l G cA a1 r_3 hr_3) (cw_X7_countOf hts wi_836 ⟨Nat.le_of_ble_eq_true rfl, Nat.le_of_ble_eq_true rfl⟩) hK va_Pnil rfl hl.1 rfl (Nat.le_of_ble_eq_true rfl) dX7_multiply_13 ⟨Nat.zero_le _, Nat.zero_le _⟩ ?_
  refine lv_istore (lv' := [(10, .int r_3), (9, .int r_2), (8, .int r_1), (0, .ref (qM 0)), (1, .int a1), (2, .int a2), (3, .int a3), (4, .long a4), (6, .long a6)]) hx hb dX7_multiply_16 hl (by decide) rfl (fun ls hl => ?_)
  refine lv_iload_n hx hb dX7_multiply_18 rfl (lv_at hl 5 rfl) ?_
  obtain ⟨r_4, hr_4, hf⟩ := obd hf
  refine cRiS (As := [.int a2]) (rest := []) ⟨hx, hb, hml, hown, hts⟩ (m_X7_countOf l G cA a2 r_4 hr_4) (cw_X7_countOf hts wi_836 ⟨Nat.le_of_ble_eq_true rfl, Nat.le_of_ble_eq_true rfl⟩) hK va_Pnil rfl hl.1 rfl (Nat.le_of_ble_eq_true rfl) dX7_multiply_19 ⟨Nat.zero_le _, Nat.zero_le _⟩ ?_
  refine lv_istore (lv' := [(11, .int r_4), (10, .int r_3), (9, .int r_2), (8, .int r_1), (0, .ref (qM 0)), (1, .int a1), (2, .int a2), (3, .int a3), (4, .long a4), (6, .long a6)]) hx hb dX7_multiply_22 hl (by decide) rfl (fun ls hl => ?_)
  refine lv_iload hx hb dX7_multiply_24 (lv_at hl 3 rfl) ?_
  refine lv_if_eq (tgt := 34) hx hb dX7_multiply_26 (by decide) (fun c_5 => ?_) (fun c_5 => ?_)
  · rw [if_pos (c_5)] at hf
    exact b_X7_multiply_34 qM   C0  zM a3 a4 a6 r_1 r_2 r_3 r_4 H locs ls hP hD hS (lv_sub hl [4, 7, 8, 9, 3, 2, 1, 0] rfl) hf
  · rw [if_neg (c_5)] at hf
    refine lv_iload hx hb dX7_multiply_29 (lv_at hl 2 rfl) ?_
    refine lv_if_ne (tgt := 72) hx hb dX7_multiply_31 (by decide) (fun c_6 => ?_) (fun c_6 => ?_)
    · rw [if_pos (c_6)] at hf
      refine lv_iload hx hb dX7_multiply_72 (lv_at hl 3 rfl) ?_
      refine lv_iconst (v := 3) hx hb dX7_multiply_74 (by decide) ?_
      refine lv_icmp_ge (tgt := 99) hx hb dX7_multiply_75 (by decide) (fun c_7 => ?_) (fun c_7 => ?_)
      · rw [if_pos (c_7)] at hf
        refine lv_iload hx hb dX7_multiply_99 (lv_at hl 3 rfl) ?_
        refine lv_iload hx hb dX7_multiply_101 (lv_at hl 2 rfl) ?_
        refine lv_icmp_ne (tgt := 163) hx hb dX7_multiply_103 (by decide) (fun c_8 => ?_) (fun c_8 => ?_)
        · rw [if_pos (c_8)] at hf
          refine lv_iload hx hb dX7_multiply_163 (lv_at hl 3 rfl) ?_
          refine lv_iconst (v := 3) hx hb dX7_multiply_165 (by decide) ?_
          refine lv_icmp_ne (tgt := 174) hx hb dX7_multiply_166 (by decide) (fun c_9 => ?_) (fun c_9 => ?_)
          · rw [if_pos (c_9)] at hf
            refine lv_iload hx hb dX7_multiply_174 (lv_at hl 0 rfl) ?_
            exact b_X7_multiply_176 qM   C0  zM a3 a4 a6 r_1 r_3 r_4 r_4 H locs ls hP hD hS (lv_sub hl [4, 7, 8, 9, 3, 1, 0] rfl) hf
          · rw [if_neg (not_not_intro c_9)] at hf
            refine lv_iload hx hb dX7_multiply_169 (lv_at hl 1 rfl) ?_
            refine lv_goto (tgt := 176) hx hb dX7_multiply_171 (by decide) ?_
            exact b_X7_multiply_176 qM   C0  zM a3 a4 a6 r_1 r_3 r_4 r_3 H locs ls hP hD hS (lv_sub hl [4, 7, 8, 9, 3, 1, 0] rfl) hf
        · rw [if_neg (not_not_intro c_8)] at hf
          refine lv_aload_n hx hb dX7_multiply_106 rfl (lv_at hl 4 rfl) ?_
          refine lv_bipush (v := (8 : Int32)) hx hb dX7_multiply_107 (by decide) ?_
          refine lv_iconst (v := 4) hx hb dX7_multiply_109 (by decide) ?_
          refine lv_iload hx hb dX7_multiply_110 (lv_at hl 1 rfl) ?_
          refine lv_iload hx hb dX7_multiply_112 (lv_at hl 0 rfl) ?_
          refine lv_isub hx hb dX7_multiply_114 ?_
          refine lv_iload_n hx hb dX7_multiply_115 rfl (lv_at hl 7 rfl) ?_
          refine lv_lload hx hb dX7_multiply_116 (lv_at hl 8 rfl) ?_
          refine lv_ldc2 (v := (2 : Int64)) hx hb hown (hts _ wi_865) dX7_multiply_118 ?_
          refine lv_lload hx hb dX7_multiply_121 (lv_at hl 9 rfl) ?_
          refine lv_lmul hx hb dX7_multiply_123 ?_
          obtain ⟨r_10, hr_10, hf⟩ := obd hf
          refine cWvV (As := [.int (8 : Int32), .int (4 : Int32), .int (r_3 - r_4), .int a3, .long a4, .long ((2 : Int64) * a6)]) (rest := []) (W1 := ((wMd cA qM r_10))) ⟨hx, hb, hml, hown, hts⟩ (m_X7_addTerm l G cA qM zM (8 : Int32) (4 : Int32) (r_3 - r_4) a3 a4 ((2 : Int64) * a6) r_10 hr_10) (cw_X7_addTerm hts wi_772 ⟨Nat.le_of_ble_eq_true rfl, Nat.le_of_ble_eq_true rfl⟩) hK hP hD hS [0, 1, 2, 3, 4] [5, 6, 7, 8, 9] rfl rfl rfl (by decide) rfl va_Pnil dj_nil (va_recv hK.1 hP (ci := 5) (q0 := 0) rfl rfl) rfl hl.1 rfl (Nat.le_of_ble_eq_true rfl) dX7_multiply_124 ⟨Nat.zero_le _, Nat.zero_le _⟩ (fun H locs hP hD hS => ?_)
          refine lv_aload_n hx hb dX7_multiply_127 rfl (lv_at hl 4 rfl) ?_
          refine lv_bipush (v := (8 : Int32)) hx hb dX7_multiply_128 (by decide) ?_
          refine lv_iconst (v := 4) hx hb dX7_multiply_130 (by decide) ?_
          refine lv_iload hx hb dX7_multiply_131 (lv_at hl 1 rfl) ?_
          refine lv_iload hx hb dX7_multiply_133 (lv_at hl 0 rfl) ?_
          refine lv_iadd hx hb dX7_multiply_135 ?_
          refine lv_iload_n hx hb dX7_multiply_136 rfl (lv_at hl 7 rfl) ?_
          refine lv_iload hx hb dX7_multiply_137 (lv_at hl 3 rfl) ?_
          refine lv_iconst (v := 3) hx hb dX7_multiply_139 (by decide) ?_
          refine lv_icmp_ne (tgt := 149) hx hb dX7_multiply_140 (by decide) (fun c_11 => ?_) (fun c_11 => ?_)
          · rw [if_pos (c_11)] at hf
            refine lv_lload hx hb dX7_multiply_149 (lv_at hl 8 rfl) ?_
            exact b_X7_multiply_151 qM   C0  r_10 a6 (8 : Int32) (4 : Int32) (r_3 + r_4) a3 a4 H locs ls hP hD hS (lv_sub hl [9] rfl) hf
          · rw [if_neg (not_not_intro c_11)] at hf
            refine lv_lload hx hb dX7_multiply_143 (lv_at hl 8 rfl) ?_
            refine lv_lneg hx hb dX7_multiply_145 ?_
            refine lv_goto (tgt := 151) hx hb dX7_multiply_146 (by decide) ?_
            exact b_X7_multiply_151 qM   C0  r_10 a6 (8 : Int32) (4 : Int32) (r_3 + r_4) a3 (-a4) H locs ls hP hD hS (lv_sub hl [9] rfl) hf
      · rw [if_neg (c_7)] at hf
        refine lv_aload_n hx hb dX7_multiply_78 rfl (lv_at hl 4 rfl) ?_
        refine lv_bipush (v := (8 : Int32)) hx hb dX7_multiply_79 (by decide) ?_
        refine lv_iload hx hb dX7_multiply_81 (lv_at hl 3 rfl) ?_
        refine lv_iload hx hb dX7_multiply_83 (lv_at hl 1 rfl) ?_
        refine lv_iload hx hb dX7_multiply_85 (lv_at hl 0 rfl) ?_
        refine lv_iadd hx hb dX7_multiply_87 ?_
        refine lv_iload_n hx hb dX7_multiply_88 rfl (lv_at hl 7 rfl) ?_
        refine lv_lload hx hb dX7_multiply_89 (lv_at hl 8 rfl) ?_
        refine lv_lload hx hb dX7_multiply_91 (lv_at hl 9 rfl) ?_
        obtain ⟨r_12, hr_12, hf⟩ := obd hf
        refine cWvV (As := [.int (8 : Int32), .int r_1, .int (r_3 + r_4), .int a3, .long a4, .long a6]) (rest := []) (W1 := ((wMd cA qM r_12))) ⟨hx, hb, hml, hown, hts⟩ (m_X7_addTerm l G cA qM zM (8 : Int32) r_1 (r_3 + r_4) a3 a4 a6 r_12 hr_12) (cw_X7_addTerm hts wi_772 ⟨Nat.le_of_ble_eq_true rfl, Nat.le_of_ble_eq_true rfl⟩) hK hP hD hS [0, 1, 2, 3, 4] [5, 6, 7, 8, 9] rfl rfl rfl (by decide) rfl va_Pnil dj_nil (va_recv hK.1 hP (ci := 5) (q0 := 0) rfl rfl) rfl hl.1 rfl (Nat.le_of_ble_eq_true rfl) dX7_multiply_93 ⟨Nat.zero_le _, Nat.zero_le _⟩ (fun H locs hP hD hS => ?_)
        refine lv_goto (tgt := 235) hx hb dX7_multiply_96 (by decide) ?_
        cases hf
        exact W.vret hx hb hr (fun t ht hW => ⟨⟨(), rfl, trivial, toT ht hP⟩, hS.F ht⟩) hS.2.2 dX7_multiply_235 hlocks
    · rw [if_neg (not_not_intro c_6)] at hf
      exact b_X7_multiply_34 qM   C0  zM a3 a4 a6 r_1 r_2 r_3 r_4 H locs ls hP hD hS (lv_sub hl [4, 7, 8, 9, 3, 2, 1, 0] rfl) hf

set_option maxRecDepth 100000 in
theorem m_X7_multiply (l : Launch) (G : va_G) (cA : Nat → ClassId) (qM : Nat → Nat) (zM : MdS) (a1 : Int32) (a2 : Int32) (a3 : Int32) (a4 : Int64) (a6 : Int64) (res : MdS) (hf : f_X7_multiply zM a1 a2 a3 a4 a6 = some res) : MWv l yX7_multiply (.code yX7_multiply cX7_multiply 14 none :: wd) rm_X7_multiply G cA [.ref (qM 0), .int a1, .int a2, .int a3, .long a4, .long a6] ((wMd cA qM zM)) [] ((wMd cA qM res)) := by
  refine Met.ofW (cc := cX7_multiply) (maxL := 14) (ret := none) (by decide) rfl ?_
  intro p e s m args below meth c s₁ B hml hv
  obtain ⟨rfl, hK, hP, hD0, hR, hRA⟩ := hv
  have C0 : Amb p s m ([.ref (qM 0), .int a1, .int a2, .int a3, .long a4, .long a6] : List Value).toArray meth c cX7_multiply RX7 14 none G cA (adr ((wMd cA qM zM))) [] := ⟨B.exec, B.bytes, B.returns, hml, findClass_of_methodNamed B.named, fun w h => atoms_spec (ws := (.code yX7_multiply cX7_multiply 14 none :: wd)) B.pre w (List.mem_cons_of_mem _ h), B.notSynchronized, hK, hR, hRA⟩
  have hl := lv_entry ([.ref (qM 0), .int a1, .int a2, .int a3, .long a4, .long a6]) (n := 14) (Nat.le_of_ble_eq_true rfl)
  rw [lg_entry_eq]
  generalize (lg_sl ([.ref (qM 0), .int a1, .int a2, .int a3, .long a4, .long a6]) ++ List.replicate (14 - (lg_sl ([.ref (qM 0), .int a1, .int a2, .int a3, .long a4, .long a6])).length) Slot.unset).toArray = ls at hl ⊢
  have hl : lv_has ls 14 [(0, .ref (qM 0)), (1, .int a1), (2, .int a2), (3, .int a3), (4, .long a4), (6, .long a6)] := hl
  exact b_X7_multiply_0 (W9 := ((wMd cA qM zM))) qM   C0 zM a1 a2 a3 a4 a6 s.heap [] ls hP (adr.self hD0) va_S.rf hl hf
theorem cw_X7_multiply {R : Room} {s : State} {args : Array Value} {own : String} {index : Nat} (ht : ∀ w ∈ wd, w.before args s = true) (hlink : Cond.methodLink own index yX7_multiply ∈ wd) (hR : rm_X7_multiply.frames + 1 ≤ R.frames ∧ 8 + (14 + 11) + rm_X7_multiply.locals ≤ R.locals) : CallW R s args own RX7 index yX7_multiply cX7_multiply 14 none (.code yX7_multiply cX7_multiply 14 none :: wd) rm_X7_multiply 0 0 5 := cwV9 5 ht wi_864 wi_863 wi_49 wi_60 hlink (by decide +kernel) rfl rfl hR
def rm_X7_times : Room := { frames := 3, cells := 0, slots := 0, locals := 101 }
def f_X7_times_295 (kb_103 : MdS → Int32 → Int32 → Int32 → Int32 → Int32 → Option (Int32 × MdS)) (zM : MdS) (x1 : Int32) (x2 : Int32) (x3 : Int32) (x5 : Int32) (x6 : Int32) : Option (Int32 × MdS) := kb_103 zM x1 x2 x3 x5 (x6 + 1)
set_option maxHeartbeats 4000000 in
set_option maxRecDepth 100000 in
theorem b_X7_times_295 {p : Program} {l : Launch} {e : Env} {s : State} {m : MethodId} {args : Array Value} {below : List Frame} {meth : Method} {c : Code} {G : va_G} {cA : Nat → ClassId} {W9 : va_W} (qM : Nat → Nat) (C0 : Amb p s m args meth c cX7_times RX7 10 (some .int) G cA (adr W9) []) {res : Int32 × MdS} (kb_103 : MdS → Int32 → Int32 → Int32 → Int32 → Int32 → Option (Int32 × MdS)) (hkb_103 : ∀ (zM : MdS) (x1 : Int32) (x2 : Int32) (x3 : Int32) (x5 : Int32) (x6 : Int32) (H : Heap) (locs : List Loc) (ls : Array Slot), va_P G vwCl ((wMd cA qM zM)) H → va_D (adr W9) ((wMd cA qM zM)) → va_S (adr W9) s.heap H locs → lv_has ls 10 [(0, .ref (qM 0)), (1, .int x1), (2, .int x2), (3, .int x3), (5, .int x5), (6, .int x6)] → kb_103 zM x1 x2 x3 x5 x6 = some res → W p l e rm_X7_times s m args below meth c H locs 0 0 (MQ below (qWi G W9 ((wMd cA qM res.2)) res.1) args s 0 0 (adr W9)) (F0 m 103 ls [])) : ∀ (zM : MdS) (x1 : Int32) (x2 : Int32) (x3 : Int32) (x5 : Int32) (x6 : Int32) (H : Heap) (locs : List Loc) (ls : Array Slot), va_P G vwCl ((wMd cA qM zM)) H → va_D (adr W9) ((wMd cA qM zM)) → va_S (adr W9) s.heap H locs → lv_has ls 10 [(0, .ref (qM 0)), (1, .int x1), (2, .int x2), (3, .int x3), (5, .int x5), (6, .int x6)] → f_X7_times_295 kb_103 zM x1 x2 x3 x5 x6 = some res → W p l e rm_X7_times s m args below meth c H locs 0 0 (MQ below (qWi G W9 ((wMd cA qM res.2)) res.1) args s 0 0 (adr W9)) (F0 m 295 ls []) := by
  obtain ⟨hx, hb, hr, hml, hown, hts, hlocks, hK, hR, hRA⟩ := id C0
  intro zM x1 x2 x3 x5 x6 H locs ls hP hD hS hl hf
  unfold f_X7_times_295 at hf
  refine lv_iinc (v := (x6 + 1)) (lv' := [(6, .int (x6 + 1)), (0, .ref (qM 0)), (1, .int x1), (2, .int x2), (3, .int x3), (5, .int x5)]) hx hb dX7_times_295 hl (k := 5) rfl rfl (by decide) rfl (fun ls hl => ?_)
  refine lv_goto (tgt := 103) hx hb dX7_times_298 (by decide) ?_
  exact hkb_103 zM x1 x2 x3 x5 (x6 + 1) H locs ls hP hD hS (lv_sub hl [1, 2, 3, 4, 5, 0] rfl) hf
def f_X7_times_289 (kb_103 : MdS → Int32 → Int32 → Int32 → Int32 → Int32 → Option (Int32 × MdS)) (kb_114 : MdS → Int32 → Int32 → Int32 → Int32 → Int32 → Int32 → Option (Int32 × MdS)) (zM : MdS) (x1 : Int32) (x2 : Int32) (x3 : Int32) (x5 : Int32) (x6 : Int32) (x7 : Int32) : Option (Int32 × MdS) := kb_114 zM x1 x2 x3 x5 x6 (x7 + 1)
set_option maxHeartbeats 4000000 in
set_option maxRecDepth 100000 in
theorem b_X7_times_289 {p : Program} {l : Launch} {e : Env} {s : State} {m : MethodId} {args : Array Value} {below : List Frame} {meth : Method} {c : Code} {G : va_G} {cA : Nat → ClassId} {W9 : va_W} (qM : Nat → Nat) (C0 : Amb p s m args meth c cX7_times RX7 10 (some .int) G cA (adr W9) []) {res : Int32 × MdS} (kb_103 : MdS → Int32 → Int32 → Int32 → Int32 → Int32 → Option (Int32 × MdS)) (hkb_103 : ∀ (zM : MdS) (x1 : Int32) (x2 : Int32) (x3 : Int32) (x5 : Int32) (x6 : Int32) (H : Heap) (locs : List Loc) (ls : Array Slot), va_P G vwCl ((wMd cA qM zM)) H → va_D (adr W9) ((wMd cA qM zM)) → va_S (adr W9) s.heap H locs → lv_has ls 10 [(0, .ref (qM 0)), (1, .int x1), (2, .int x2), (3, .int x3), (5, .int x5), (6, .int x6)] → kb_103 zM x1 x2 x3 x5 x6 = some res → W p l e rm_X7_times s m args below meth c H locs 0 0 (MQ below (qWi G W9 ((wMd cA qM res.2)) res.1) args s 0 0 (adr W9)) (F0 m 103 ls [])) (kb_114 : MdS → Int32 → Int32 → Int32 → Int32 → Int32 → Int32 → Option (Int32 × MdS)) (hkb_114 : ∀ (zM : MdS) (x1 : Int32) (x2 : Int32) (x3 : Int32) (x5 : Int32) (x6 : Int32) (x7 : Int32) (H : Heap) (locs : List Loc) (ls : Array Slot), va_P G vwCl ((wMd cA qM zM)) H → va_D (adr W9) ((wMd cA qM zM)) → va_S (adr W9) s.heap H locs → lv_has ls 10 [(0, .ref (qM 0)), (1, .int x1), (2, .int x2), (3, .int x3), (5, .int x5), (6, .int x6), (7, .int x7)] → kb_114 zM x1 x2 x3 x5 x6 x7 = some res → W p l e rm_X7_times s m args below meth c H locs 0 0 (MQ below (qWi G W9 ((wMd cA qM res.2)) res.1) args s 0 0 (adr W9)) (F0 m 114 ls [])) : ∀ (zM : MdS) (x1 : Int32) (x2 : Int32) (x3 : Int32) (x5 : Int32) (x6 : Int32) (x7 : Int32) (H : Heap) (locs : List Loc) (ls : Array Slot), va_P G vwCl ((wMd cA qM zM)) H → va_D (adr W9) ((wMd cA qM zM)) → va_S (adr W9) s.heap H locs → lv_has ls 10 [(0, .ref (qM 0)), (1, .int x1), (2, .int x2), (3, .int x3), (5, .int x5), (6, .int x6), (7, .int x7)] → f_X7_times_289 kb_103 kb_114 zM x1 x2 x3 x5 x6 x7 = some res → W p l e rm_X7_times s m args below meth c H locs 0 0 (MQ below (qWi G W9 ((wMd cA qM res.2)) res.1) args s 0 0 (adr W9)) (F0 m 289 ls []) := by
  obtain ⟨hx, hb, hr, hml, hown, hts, hlocks, hK, hR, hRA⟩ := id C0
  intro zM x1 x2 x3 x5 x6 x7 H locs ls hP hD hS hl hf
  unfold f_X7_times_289 at hf
  refine lv_iinc (v := (x7 + 1)) (lv' := [(7, .int (x7 + 1)), (0, .ref (qM 0)), (1, .int x1), (2, .int x2), (3, .int x3), (5, .int x5), (6, .int x6)]) hx hb dX7_times_289 hl (k := 6) rfl rfl (by decide) rfl (fun ls hl => ?_)
  refine lv_goto (tgt := 114) hx hb dX7_times_292 (by decide) ?_
  exact hkb_114 zM x1 x2 x3 x5 x6 (x7 + 1) H locs ls hP hD hS (lv_sub hl [1, 2, 3, 4, 5, 6, 0] rfl) hf
def f_X7_times_207 (kb_103 : MdS → Int32 → Int32 → Int32 → Int32 → Int32 → Option (Int32 × MdS)) (kb_114 : MdS → Int32 → Int32 → Int32 → Int32 → Int32 → Int32 → Option (Int32 × MdS)) (zM : MdS) (x1 : Int32) (x2 : Int32) (x3 : Int32) (x6 : Int32) (x7 : Int32) : Option (Int32 × MdS) := f_X7_times_289 kb_103 kb_114 zM x1 x2 x3 (1 : Int32) x6 x7
set_option maxHeartbeats 4000000 in
set_option maxRecDepth 100000 in
theorem b_X7_times_207 {p : Program} {l : Launch} {e : Env} {s : State} {m : MethodId} {args : Array Value} {below : List Frame} {meth : Method} {c : Code} {G : va_G} {cA : Nat → ClassId} {W9 : va_W} (qM : Nat → Nat) (C0 : Amb p s m args meth c cX7_times RX7 10 (some .int) G cA (adr W9) []) {res : Int32 × MdS} (kb_103 : MdS → Int32 → Int32 → Int32 → Int32 → Int32 → Option (Int32 × MdS)) (hkb_103 : ∀ (zM : MdS) (x1 : Int32) (x2 : Int32) (x3 : Int32) (x5 : Int32) (x6 : Int32) (H : Heap) (locs : List Loc) (ls : Array Slot), va_P G vwCl ((wMd cA qM zM)) H → va_D (adr W9) ((wMd cA qM zM)) → va_S (adr W9) s.heap H locs → lv_has ls 10 [(0, .ref (qM 0)), (1, .int x1), (2, .int x2), (3, .int x3), (5, .int x5), (6, .int x6)] → kb_103 zM x1 x2 x3 x5 x6 = some res → W p l e rm_X7_times s m args below meth c H locs 0 0 (MQ below (qWi G W9 ((wMd cA qM res.2)) res.1) args s 0 0 (adr W9)) (F0 m 103 ls [])) (kb_114 : MdS → Int32 → Int32 → Int32 → Int32 → Int32 → Int32 → Option (Int32 × MdS)) (hkb_114 : ∀ (zM : MdS) (x1 : Int32) (x2 : Int32) (x3 : Int32) (x5 : Int32) (x6 : Int32) (x7 : Int32) (H : Heap) (locs : List Loc) (ls : Array Slot), va_P G vwCl ((wMd cA qM zM)) H → va_D (adr W9) ((wMd cA qM zM)) → va_S (adr W9) s.heap H locs → lv_has ls 10 [(0, .ref (qM 0)), (1, .int x1), (2, .int x2), (3, .int x3), (5, .int x5), (6, .int x6), (7, .int x7)] → kb_114 zM x1 x2 x3 x5 x6 x7 = some res → W p l e rm_X7_times s m args below meth c H locs 0 0 (MQ below (qWi G W9 ((wMd cA qM res.2)) res.1) args s 0 0 (adr W9)) (F0 m 114 ls [])) : ∀ (zM : MdS) (x1 : Int32) (x2 : Int32) (x3 : Int32) (x6 : Int32) (x7 : Int32) (H : Heap) (locs : List Loc) (ls : Array Slot), va_P G vwCl ((wMd cA qM zM)) H → va_D (adr W9) ((wMd cA qM zM)) → va_S (adr W9) s.heap H locs → lv_has ls 10 [(0, .ref (qM 0)), (1, .int x1), (2, .int x2), (3, .int x3), (6, .int x6), (7, .int x7)] → f_X7_times_207 kb_103 kb_114 zM x1 x2 x3 x6 x7 = some res → W p l e rm_X7_times s m args below meth c H locs 0 0 (MQ below (qWi G W9 ((wMd cA qM res.2)) res.1) args s 0 0 (adr W9)) (F0 m 207 ls []) := by
  obtain ⟨hx, hb, hr, hml, hown, hts, hlocks, hK, hR, hRA⟩ := id C0
  intro zM x1 x2 x3 x6 x7 H locs ls hP hD hS hl hf
  unfold f_X7_times_207 at hf
  refine lv_iconst (v := 1) hx hb dX7_times_207 (by decide) ?_
  refine lv_istore (lv' := [(5, .int (1 : Int32)), (0, .ref (qM 0)), (1, .int x1), (2, .int x2), (3, .int x3), (6, .int x6), (7, .int x7)]) hx hb dX7_times_208 hl (by decide) rfl (fun ls hl => ?_)
  refine lv_goto (tgt := 289) hx hb dX7_times_210 (by decide) ?_
  exact b_X7_times_289 qM   C0 kb_103 hkb_103 kb_114 hkb_114 zM x1 x2 x3 (1 : Int32) x6 x7 H locs ls hP hD hS (lv_sub hl [1, 2, 3, 4, 0, 5, 6] rfl) hf
def f_X7_times_114 (kb_103 : MdS → Int32 → Int32 → Int32 → Int32 → Int32 → Option (Int32 × MdS)) : Nat → MdS → Int32 → Int32 → Int32 → Int32 → Int32 → Int32 → Option (Int32 × MdS)
  | 0, _, _, _, _, _, _, _ => none
  | fu + 1, zM, x1, x2, x3, x5, x6, x7 => if (1150 : Int32) ≤ x7 then f_X7_times_295 kb_103 zM x1 x2 x3 x5 x6 else if inb (((1150 : Int32) * x2) + x6) 11500 = true then if (gM_up zM (((1150 : Int32) * x2) + x6).toNatClampNeg) = (0 : Int64) then f_X7_times_295 kb_103 zM x1 x2 x3 x5 x6 else if inb (((1150 : Int32) * x3) + x7) 11500 = true then if ¬ (gM_up zM (((1150 : Int32) * x3) + x7).toNatClampNeg) = (0 : Int64) then (some ((x6 / (25 : Int32)))).bind fun y_6 => (some ((x7 / (25 : Int32)))).bind fun y_7 => (f_X7_kindOf y_6).bind fun r_8 => (f_X7_kindOf y_7).bind fun r_9 => (f_X7_clash r_8 r_9).bind fun r_10 => if ¬ r_10 = 0 then f_X7_times_207 kb_103 (fun zM_ x1_ x2_ x3_ x5_ x6_ x7_ => f_X7_times_114 kb_103 fu zM_ x1_ x2_ x3_ x5_ x6_ x7_) zM x1 x2 x3 x6 x7 else (f_X7_kindOf y_7).bind fun r_12 => (f_X7_kindOf y_6).bind fun r_13 => (f_X7_clash r_12 r_13).bind fun r_14 => if r_14 = 0 then if inb (((1150 : Int32) * x2) + x6) 11500 = true then if inb (((1150 : Int32) * x3) + x7) 11500 = true then if inb (((1150 : Int32) * x2) + x6) 11500 = true then if inb (((1150 : Int32) * x3) + x7) 11500 = true then (f_X7_multiply zM y_6 y_7 (((x6 - x6 / (25 : Int32) * (25 : Int32)) + (x7 - x7 / (25 : Int32) * (25 : Int32))) - (24 : Int32)) ((gM_up zM (((1150 : Int32) * x2) + x6).toNatClampNeg) * (gM_up zM (((1150 : Int32) * x3) + x7).toNatClampNeg)) ((gM_down zM (((1150 : Int32) * x2) + x6).toNatClampNeg) * (gM_down zM (((1150 : Int32) * x3) + x7).toNatClampNeg))).bind fun r_20 => f_X7_times_289 kb_103 (fun zM_ x1_ x2_ x3_ x5_ x6_ x7_ => f_X7_times_114 kb_103 fu zM_ x1_ x2_ x3_ x5_ x6_ x7_) r_20 x1 x2 x3 x5 x6 x7 else none else none else none else none else f_X7_times_207 kb_103 (fun zM_ x1_ x2_ x3_ x5_ x6_ x7_ => f_X7_times_114 kb_103 fu zM_ x1_ x2_ x3_ x5_ x6_ x7_) zM x1 x2 x3 x6 x7 else f_X7_times_289 kb_103 (fun zM_ x1_ x2_ x3_ x5_ x6_ x7_ => f_X7_times_114 kb_103 fu zM_ x1_ x2_ x3_ x5_ x6_ x7_) zM x1 x2 x3 x5 x6 x7 else none else none
set_option maxHeartbeats 4000000 in
set_option maxRecDepth 100000 in
theorem b_X7_times_114 {p : Program} {l : Launch} {e : Env} {s : State} {m : MethodId} {args : Array Value} {below : List Frame} {meth : Method} {c : Code} {G : va_G} {cA : Nat → ClassId} {W9 : va_W} (qM : Nat → Nat) (C0 : Amb p s m args meth c cX7_times RX7 10 (some .int) G cA (adr W9) []) {res : Int32 × MdS} (kb_103 : MdS → Int32 → Int32 → Int32 → Int32 → Int32 → Option (Int32 × MdS)) (hkb_103 : ∀ (zM : MdS) (x1 : Int32) (x2 : Int32) (x3 : Int32) (x5 : Int32) (x6 : Int32) (H : Heap) (locs : List Loc) (ls : Array Slot), va_P G vwCl ((wMd cA qM zM)) H → va_D (adr W9) ((wMd cA qM zM)) → va_S (adr W9) s.heap H locs → lv_has ls 10 [(0, .ref (qM 0)), (1, .int x1), (2, .int x2), (3, .int x3), (5, .int x5), (6, .int x6)] → kb_103 zM x1 x2 x3 x5 x6 = some res → W p l e rm_X7_times s m args below meth c H locs 0 0 (MQ below (qWi G W9 ((wMd cA qM res.2)) res.1) args s 0 0 (adr W9)) (F0 m 103 ls [])) : ∀ (fu : Nat) (zM : MdS) (x1 : Int32) (x2 : Int32) (x3 : Int32) (x5 : Int32) (x6 : Int32) (x7 : Int32) (H : Heap) (locs : List Loc) (ls : Array Slot), va_P G vwCl ((wMd cA qM zM)) H → va_D (adr W9) ((wMd cA qM zM)) → va_S (adr W9) s.heap H locs → lv_has ls 10 [(0, .ref (qM 0)), (1, .int x1), (2, .int x2), (3, .int x3), (5, .int x5), (6, .int x6), (7, .int x7)] → f_X7_times_114 kb_103 fu zM x1 x2 x3 x5 x6 x7 = some res → W p l e rm_X7_times s m args below meth c H locs 0 0 (MQ below (qWi G W9 ((wMd cA qM res.2)) res.1) args s 0 0 (adr W9)) (F0 m 114 ls []) := by
  obtain ⟨hx, hb, hr, hml, hown, hts, hlocks, hK, hR, hRA⟩ := id C0
  intro fu
  induction fu with
  | zero =>
    intro zM x1 x2 x3 x5 x6 x7 H locs ls hP hD hS hl hf
    rw [f_X7_times_114] at hf
    cases hf
  | succ fu ih =>
    intro zM x1 x2 x3 x5 x6 x7 H locs ls hP hD hS hl hf
    rw [f_X7_times_114] at hf
    refine lv_iload hx hb dX7_times_114 (lv_at hl 6 rfl) ?_
    refine lv_sipush (v := (1150 : Int32)) hx hb dX7_times_116 (by decide) ?_
    refine lv_icmp_ge (tgt := 295) hx hb dX7_times_119 (by decide) (fun c_1 => ?_) (fun c_1 => ?_)
    · rw [if_pos (c_1)] at hf
      exact b_X7_times_295 qM   C0 kb_103 hkb_103 zM x1 x2 x3 x5 x6 H locs ls hP hD hS (lv_sub hl [0, 1, 2, 3, 4, 5] rfl) hf
    · rw [if_neg (c_1)] at hf
      refine lv_aload_n hx hb dX7_times_122 rfl (lv_at hl 0 rfl) ?_
      refine va_get (D := G) (ci := 5) (v := .ref (qM 3)) (C := RX7) (T := TX7) (N := 13) hx hb hts fin_X7 hown hK.1 hP 0 rfl rfl 6 (by decide) (hts _ wi_677) (fun _ h9 => h9) rfl dX7_times_123 ?_
      refine lv_sipush (v := (1150 : Int32)) hx hb dX7_times_126 (by decide) ?_
      refine lv_iload_n hx hb dX7_times_129 rfl (lv_at hl 2 rfl) ?_
      refine lv_imul hx hb dX7_times_130 ?_
      refine lv_iload hx hb dX7_times_131 (lv_at hl 5 rfl) ?_
      refine lv_iadd hx hb dX7_times_133 ?_
      obtain ⟨hi_2, hf⟩ := oif hf
      refine va_lald hx hb hK.1 hP 3 1 rfl rfl (inb_in hi_2) dX7_times_134 ?_
      refine lv_lconst (v := (0 : Int64)) hx hb dX7_times_135 (by decide) ?_
      refine W.lcmp hx hb dX7_times_136 ?_
      refine lv_if_eq (tgt := 295) hx hb dX7_times_137 (by decide) (fun c_3 => ?_) (fun c_3 => ?_)
      · rw [if_pos ((lg_cmp_eq _ _).mp c_3)] at hf
        exact b_X7_times_295 qM   C0 kb_103 hkb_103 zM x1 x2 x3 x5 x6 H locs ls hP hD hS (lv_sub hl [0, 1, 2, 3, 4, 5] rfl) hf
      · rw [if_neg (fun h => c_3 ((lg_cmp_eq _ _).mpr h))] at hf
        refine lv_aload_n hx hb dX7_times_140 rfl (lv_at hl 0 rfl) ?_
        refine va_get (D := G) (ci := 5) (v := .ref (qM 3)) (C := RX7) (T := TX7) (N := 13) hx hb hts fin_X7 hown hK.1 hP 0 rfl rfl 6 (by decide) (hts _ wi_677) (fun _ h9 => h9) rfl dX7_times_141 ?_
        refine lv_sipush (v := (1150 : Int32)) hx hb dX7_times_144 (by decide) ?_
        refine lv_iload_n hx hb dX7_times_147 rfl (lv_at hl 3 rfl) ?_
        refine lv_imul hx hb dX7_times_148 ?_
        refine lv_iload hx hb dX7_times_149 (lv_at hl 6 rfl) ?_
        refine lv_iadd hx hb dX7_times_151 ?_
        obtain ⟨hi_4, hf⟩ := oif hf
        refine va_lald hx hb hK.1 hP 3 1 rfl rfl (inb_in hi_4) dX7_times_152 ?_
        refine lv_lconst (v := (0 : Int64)) hx hb dX7_times_153 (by decide) ?_
        refine W.lcmp hx hb dX7_times_154 ?_
        refine lv_if_ne (tgt := 161) hx hb dX7_times_155 (by decide) (fun c_5 => ?_) (fun c_5 => ?_)
        · rw [if_pos (fun h => c_5 ((lg_cmp_eq _ _).mpr h))] at hf
          refine lv_iload hx hb dX7_times_161 (lv_at hl 5 rfl) ?_
          refine lv_bipush (v := (25 : Int32)) hx hb dX7_times_163 (by decide) ?_
          refine lv_idiv hx hb dX7_times_165 (by decide) ?_
          obtain ⟨y_6, hq, hf⟩ := obd hf
          have hy_6 : (x6 / (25 : Int32)) = y_6 := Option.some.inj hq
          rw [hy_6]
          refine lv_istore (lv' := [(8, .int y_6), (0, .ref (qM 0)), (1, .int x1), (2, .int x2), (3, .int x3), (5, .int x5), (6, .int x6), (7, .int x7)]) hx hb dX7_times_166 hl (by decide) rfl (fun ls hl => ?_)
          refine lv_iload hx hb dX7_times_168 (lv_at hl 7 rfl) ?_
          refine lv_bipush (v := (25 : Int32)) hx hb dX7_times_170 (by decide) ?_
          refine lv_idiv hx hb dX7_times_172 (by decide) ?_
          obtain ⟨y_7, hq, hf⟩ := obd hf
          have hy_7 : (x7 / (25 : Int32)) = y_7 := Option.some.inj hq
          rw [hy_7]
          refine lv_istore (lv' := [(9, .int y_7), (8, .int y_6), (0, .ref (qM 0)), (1, .int x1), (2, .int x2), (3, .int x3), (5, .int x5), (6, .int x6), (7, .int x7)]) hx hb dX7_times_173 hl (by decide) rfl (fun ls hl => ?_)
          refine lv_iload hx hb dX7_times_175 (lv_at hl 1 rfl) ?_
          obtain ⟨r_8, hr_8, hf⟩ := obd hf
          refine cRiS (As := [.int y_6]) (rest := []) ⟨hx, hb, hml, hown, hts⟩ (m_X7_kindOf l G cA y_6 r_8 hr_8) (cw_X7_kindOf hts wi_833 ⟨Nat.le_of_ble_eq_true rfl, Nat.le_of_ble_eq_true rfl⟩) hK va_Pnil rfl hl.1 rfl (Nat.le_of_ble_eq_true rfl) dX7_times_177 ⟨Nat.zero_le _, Nat.zero_le _⟩ ?_
          refine lv_iload hx hb dX7_times_180 (lv_at hl 0 rfl) ?_
          obtain ⟨r_9, hr_9, hf⟩ := obd hf
          refine cRiS (As := [.int y_7]) (rest := [.int r_8]) ⟨hx, hb, hml, hown, hts⟩ (m_X7_kindOf l G cA y_7 r_9 hr_9) (cw_X7_kindOf hts wi_833 ⟨Nat.le_of_ble_eq_true rfl, Nat.le_of_ble_eq_true rfl⟩) hK va_Pnil rfl hl.1 rfl (Nat.le_of_ble_eq_true rfl) dX7_times_182 ⟨Nat.zero_le _, Nat.zero_le _⟩ ?_
          obtain ⟨r_10, hr_10, hf⟩ := obd hf
          refine cRiS (As := [.int r_8, .int r_9]) (rest := []) ⟨hx, hb, hml, hown, hts⟩ (m_X7_clash l G cA r_8 r_9 r_10 hr_10) (cw_X7_clash hts wi_858 ⟨Nat.le_of_ble_eq_true rfl, Nat.le_of_ble_eq_true rfl⟩) hK va_Pnil rfl hl.1 rfl (Nat.le_of_ble_eq_true rfl) dX7_times_185 ⟨Nat.zero_le _, Nat.zero_le _⟩ ?_
          refine lv_if_ne (tgt := 207) hx hb dX7_times_188 (by decide) (fun c_11 => ?_) (fun c_11 => ?_)
          · rw [if_pos (c_11)] at hf
            exact b_X7_times_207 qM   C0 kb_103 hkb_103 (fun zM_ x1_ x2_ x3_ x5_ x6_ x7_ => f_X7_times_114 kb_103 fu zM_ x1_ x2_ x3_ x5_ x6_ x7_) ih zM x1 x2 x3 x6 x7 H locs ls hP hD hS (lv_sub hl [2, 3, 4, 5, 7, 8] rfl) hf
          · rw [if_neg (not_not_intro c_11)] at hf
            refine lv_iload hx hb dX7_times_191 (lv_at hl 0 rfl) ?_
            obtain ⟨r_12, hr_12, hf⟩ := obd hf
            refine cRiS (As := [.int y_7]) (rest := []) ⟨hx, hb, hml, hown, hts⟩ (m_X7_kindOf l G cA y_7 r_12 hr_12) (cw_X7_kindOf hts wi_833 ⟨Nat.le_of_ble_eq_true rfl, Nat.le_of_ble_eq_true rfl⟩) hK va_Pnil rfl hl.1 rfl (Nat.le_of_ble_eq_true rfl) dX7_times_193 ⟨Nat.zero_le _, Nat.zero_le _⟩ ?_
            refine lv_iload hx hb dX7_times_196 (lv_at hl 1 rfl) ?_
            obtain ⟨r_13, hr_13, hf⟩ := obd hf
            refine cRiS (As := [.int y_6]) (rest := [.int r_12]) ⟨hx, hb, hml, hown, hts⟩ (m_X7_kindOf l G cA y_6 r_13 hr_13) (cw_X7_kindOf hts wi_833 ⟨Nat.le_of_ble_eq_true rfl, Nat.le_of_ble_eq_true rfl⟩) hK va_Pnil rfl hl.1 rfl (Nat.le_of_ble_eq_true rfl) dX7_times_198 ⟨Nat.zero_le _, Nat.zero_le _⟩ ?_
            obtain ⟨r_14, hr_14, hf⟩ := obd hf
            refine cRiS (As := [.int r_12, .int r_13]) (rest := []) ⟨hx, hb, hml, hown, hts⟩ (m_X7_clash l G cA r_12 r_13 r_14 hr_14) (cw_X7_clash hts wi_858 ⟨Nat.le_of_ble_eq_true rfl, Nat.le_of_ble_eq_true rfl⟩) hK va_Pnil rfl hl.1 rfl (Nat.le_of_ble_eq_true rfl) dX7_times_201 ⟨Nat.zero_le _, Nat.zero_le _⟩ ?_
            refine lv_if_eq (tgt := 213) hx hb dX7_times_204 (by decide) (fun c_15 => ?_) (fun c_15 => ?_)
            · rw [if_pos (c_15)] at hf
              refine lv_aload_n hx hb dX7_times_213 rfl (lv_at hl 2 rfl) ?_
              refine lv_iload hx hb dX7_times_214 (lv_at hl 1 rfl) ?_
              refine lv_iload hx hb dX7_times_216 (lv_at hl 0 rfl) ?_
              refine lv_iload hx hb dX7_times_218 (lv_at hl 7 rfl) ?_
              refine lv_bipush (v := (25 : Int32)) hx hb dX7_times_220 (by decide) ?_
              refine lv_irem hx hb dX7_times_222 (by decide) ?_
              refine lv_iload hx hb dX7_times_223 (lv_at hl 8 rfl) ?_
              refine lv_bipush (v := (25 : Int32)) hx hb dX7_times_225 (by decide) ?_
              refine lv_irem hx hb dX7_times_227 (by decide) ?_
              refine lv_iadd hx hb dX7_times_228 ?_
              refine lv_bipush (v := (24 : Int32)) hx hb dX7_times_229 (by decide) ?_
              refine lv_isub hx hb dX7_times_231 ?_
              refine lv_aload_n hx hb dX7_times_232 rfl (lv_at hl 2 rfl) ?_
              refine va_get (D := G) (ci := 5) (v := .ref (qM 3)) (C := RX7) (T := TX7) (N := 13) hx hb hts fin_X7 hown hK.1 hP 0 rfl rfl 6 (by decide) (hts _ wi_677) (fun _ h9 => h9) rfl dX7_times_233 ?_
              refine lv_sipush (v := (1150 : Int32)) hx hb dX7_times_236 (by decide) ?_
              refine lv_iload_n hx hb dX7_times_239 rfl (lv_at hl 4 rfl) ?_
              refine lv_imul hx hb dX7_times_240 ?_
              refine lv_iload hx hb dX7_times_241 (lv_at hl 7 rfl) ?_
              refine lv_iadd hx hb dX7_times_243 ?_
              obtain ⟨hi_16, hf⟩ := oif hf
              refine va_lald hx hb hK.1 hP 3 1 rfl rfl (inb_in hi_16) dX7_times_244 ?_
              refine lv_aload_n hx hb dX7_times_245 rfl (lv_at hl 2 rfl) ?_
              refine va_get (D := G) (ci := 5) (v := .ref (qM 3)) (C := RX7) (T := TX7) (N := 13) hx hb hts fin_X7 hown hK.1 hP 0 rfl rfl 6 (by decide) (hts _ wi_677) (fun _ h9 => h9) rfl dX7_times_246 ?_
              refine lv_sipush (v := (1150 : Int32)) hx hb dX7_times_249 (by decide) ?_
              refine lv_iload_n hx hb dX7_times_252 rfl (lv_at hl 5 rfl) ?_
              refine lv_imul hx hb dX7_times_253 ?_
              refine lv_iload hx hb dX7_times_254 (lv_at hl 8 rfl) ?_
              refine lv_iadd hx hb dX7_times_256 ?_
              obtain ⟨hi_17, hf⟩ := oif hf
              refine va_lald hx hb hK.1 hP 3 1 rfl rfl (inb_in hi_17) dX7_times_257 ?_
              refine lv_lmul hx hb dX7_times_258 ?_
              refine lv_aload_n hx hb dX7_times_259 rfl (lv_at hl 2 rfl) ?_
              refine va_get (D := G) (ci := 5) (v := .ref (qM 4)) (C := RX7) (T := TX7) (N := 13) hx hb hts fin_X7 hown hK.1 hP 0 rfl rfl 7 (by decide) (hts _ wi_678) (fun _ h9 => h9) rfl dX7_times_260 ?_
              refine lv_sipush (v := (1150 : Int32)) hx hb dX7_times_263 (by decide) ?_
              refine lv_iload_n hx hb dX7_times_266 rfl (lv_at hl 4 rfl) ?_
              refine lv_imul hx hb dX7_times_267 ?_
              refine lv_iload hx hb dX7_times_268 (lv_at hl 7 rfl) ?_
              refine lv_iadd hx hb dX7_times_270 ?_
              obtain ⟨hi_18, hf⟩ := oif hf
              refine va_lald hx hb hK.1 hP 4 1 rfl rfl (inb_in hi_18) dX7_times_271 ?_
              refine lv_aload_n hx hb dX7_times_272 rfl (lv_at hl 2 rfl) ?_
              refine va_get (D := G) (ci := 5) (v := .ref (qM 4)) (C := RX7) (T := TX7) (N := 13) hx hb hts fin_X7 hown hK.1 hP 0 rfl rfl 7 (by decide) (hts _ wi_678) (fun _ h9 => h9) rfl dX7_times_273 ?_
              refine lv_sipush (v := (1150 : Int32)) hx hb dX7_times_276 (by decide) ?_
              refine lv_iload_n hx hb dX7_times_279 rfl (lv_at hl 5 rfl) ?_
              refine lv_imul hx hb dX7_times_280 ?_
              refine lv_iload hx hb dX7_times_281 (lv_at hl 8 rfl) ?_
              refine lv_iadd hx hb dX7_times_283 ?_
              obtain ⟨hi_19, hf⟩ := oif hf
              refine va_lald hx hb hK.1 hP 4 1 rfl rfl (inb_in hi_19) dX7_times_284 ?_
              refine lv_lmul hx hb dX7_times_285 ?_
              obtain ⟨r_20, hr_20, hf⟩ := obd hf
              refine cWvV (As := [.int y_6, .int y_7, .int (((x6 - x6 / (25 : Int32) * (25 : Int32)) + (x7 - x7 / (25 : Int32) * (25 : Int32))) - (24 : Int32)), .long ((gM_up zM (((1150 : Int32) * x2) + x6).toNatClampNeg) * (gM_up zM (((1150 : Int32) * x3) + x7).toNatClampNeg)), .long ((gM_down zM (((1150 : Int32) * x2) + x6).toNatClampNeg) * (gM_down zM (((1150 : Int32) * x3) + x7).toNatClampNeg))]) (rest := []) (W1 := ((wMd cA qM r_20))) ⟨hx, hb, hml, hown, hts⟩ (m_X7_multiply l G cA qM zM y_6 y_7 (((x6 - x6 / (25 : Int32) * (25 : Int32)) + (x7 - x7 / (25 : Int32) * (25 : Int32))) - (24 : Int32)) ((gM_up zM (((1150 : Int32) * x2) + x6).toNatClampNeg) * (gM_up zM (((1150 : Int32) * x3) + x7).toNatClampNeg)) ((gM_down zM (((1150 : Int32) * x2) + x6).toNatClampNeg) * (gM_down zM (((1150 : Int32) * x3) + x7).toNatClampNeg)) r_20 hr_20) (cw_X7_multiply hts wi_861 ⟨Nat.le_of_ble_eq_true rfl, Nat.le_of_ble_eq_true rfl⟩) hK hP hD hS [0, 1, 2, 3, 4] [5, 6, 7, 8, 9] rfl rfl rfl (by decide) rfl va_Pnil dj_nil (va_recv hK.1 hP (ci := 5) (q0 := 0) rfl rfl) rfl hl.1 rfl (Nat.le_of_ble_eq_true rfl) dX7_times_286 ⟨Nat.zero_le _, Nat.zero_le _⟩ (fun H locs hP hD hS => ?_)
              exact b_X7_times_289 qM   C0 kb_103 hkb_103 (fun zM_ x1_ x2_ x3_ x5_ x6_ x7_ => f_X7_times_114 kb_103 fu zM_ x1_ x2_ x3_ x5_ x6_ x7_) ih r_20 x1 x2 x3 x5 x6 x7 H locs ls hP hD hS (lv_sub hl [2, 3, 4, 5, 6, 7, 8] rfl) hf
            · rw [if_neg (c_15)] at hf
              exact b_X7_times_207 qM   C0 kb_103 hkb_103 (fun zM_ x1_ x2_ x3_ x5_ x6_ x7_ => f_X7_times_114 kb_103 fu zM_ x1_ x2_ x3_ x5_ x6_ x7_) ih zM x1 x2 x3 x6 x7 H locs ls hP hD hS (lv_sub hl [2, 3, 4, 5, 7, 8] rfl) hf
        · rw [if_neg (fun h => h ((lg_cmp_eq _ _).mp c_5))] at hf
          refine lv_goto (tgt := 289) hx hb dX7_times_158 (by decide) ?_
          exact b_X7_times_289 qM   C0 kb_103 hkb_103 (fun zM_ x1_ x2_ x3_ x5_ x6_ x7_ => f_X7_times_114 kb_103 fu zM_ x1_ x2_ x3_ x5_ x6_ x7_) ih zM x1 x2 x3 x5 x6 x7 H locs ls hP hD hS (lv_sub hl [0, 1, 2, 3, 4, 5, 6] rfl) hf
def f_X7_times_103  : Nat → MdS → Int32 → Int32 → Int32 → Int32 → Int32 → Option (Int32 × MdS)
  | 0, _, _, _, _, _, _ => none
  | fu + 1, zM, x1, x2, x3, x5, x6 => if (1150 : Int32) ≤ x6 then if x5 = 0 then (f_X7_finish zM x1).bind fun r_3 => some (r_3.1, r_3.2) else some ((-5 : Int32), zM) else f_X7_times_114 (fun zM_ x1_ x2_ x3_ x5_ x6_ => f_X7_times_103  fu zM_ x1_ x2_ x3_ x5_ x6_) fuel zM x1 x2 x3 x5 x6 (0 : Int32)
set_option maxHeartbeats 4000000 in
set_option maxRecDepth 100000 in
theorem b_X7_times_103 {p : Program} {l : Launch} {e : Env} {s : State} {m : MethodId} {args : Array Value} {below : List Frame} {meth : Method} {c : Code} {G : va_G} {cA : Nat → ClassId} {W9 : va_W} (qM : Nat → Nat) (C0 : Amb p s m args meth c cX7_times RX7 10 (some .int) G cA (adr W9) []) {res : Int32 × MdS} : ∀ (fu : Nat) (zM : MdS) (x1 : Int32) (x2 : Int32) (x3 : Int32) (x5 : Int32) (x6 : Int32) (H : Heap) (locs : List Loc) (ls : Array Slot), va_P G vwCl ((wMd cA qM zM)) H → va_D (adr W9) ((wMd cA qM zM)) → va_S (adr W9) s.heap H locs → lv_has ls 10 [(0, .ref (qM 0)), (1, .int x1), (2, .int x2), (3, .int x3), (5, .int x5), (6, .int x6)] → f_X7_times_103 fu zM x1 x2 x3 x5 x6 = some res → W p l e rm_X7_times s m args below meth c H locs 0 0 (MQ below (qWi G W9 ((wMd cA qM res.2)) res.1) args s 0 0 (adr W9)) (F0 m 103 ls []) := by
  obtain ⟨hx, hb, hr, hml, hown, hts, hlocks, hK, hR, hRA⟩ := id C0
  intro fu
  induction fu with
  | zero =>
    intro zM x1 x2 x3 x5 x6 H locs ls hP hD hS hl hf
    rw [f_X7_times_103] at hf
    cases hf
  | succ fu ih =>
    intro zM x1 x2 x3 x5 x6 H locs ls hP hD hS hl hf
    rw [f_X7_times_103] at hf
    refine lv_iload hx hb dX7_times_103 (lv_at hl 5 rfl) ?_
    refine lv_sipush (v := (1150 : Int32)) hx hb dX7_times_105 (by decide) ?_
    refine lv_icmp_ge (tgt := 301) hx hb dX7_times_108 (by decide) (fun c_1 => ?_) (fun c_1 => ?_)
    · rw [if_pos (c_1)] at hf
      refine lv_iload hx hb dX7_times_301 (lv_at hl 4 rfl) ?_
      refine lv_if_eq (tgt := 311) hx hb dX7_times_303 (by decide) (fun c_2 => ?_) (fun c_2 => ?_)
      · rw [if_pos (c_2)] at hf
        refine lv_aload_n hx hb dX7_times_311 rfl (lv_at hl 0 rfl) ?_
        refine lv_iload_n hx hb dX7_times_312 rfl (lv_at hl 1 rfl) ?_
        obtain ⟨r_3, hr_3, hf⟩ := obd hf
        refine cWiV (As := [.int x1]) (rest := []) (W1 := ((wMd cA qM r_3.2))) ⟨hx, hb, hml, hown, hts⟩ (m_X7_finish l G cA qM zM x1 r_3 hr_3) (cw_X7_finish hts wi_790 ⟨Nat.le_of_ble_eq_true rfl, Nat.le_of_ble_eq_true rfl⟩) hK hP hD hS [0, 1, 2, 3, 4] [5, 6, 7, 8, 9] rfl rfl rfl (by decide) rfl va_Pnil dj_nil (va_recv hK.1 hP (ci := 5) (q0 := 0) rfl rfl) rfl hl.1 rfl (Nat.le_of_ble_eq_true rfl) dX7_times_313 ⟨Nat.zero_le _, Nat.zero_le _⟩ (fun H locs hP hD hS => ?_)
        cases hf
        exact W.iret hx hb hr (fun t ht hW => ⟨⟨_, (), rfl, rfl, toT ht hP⟩, hS.F ht⟩) hS.2.2 dX7_times_316 hlocks
      · rw [if_neg (c_2)] at hf
        refine lv_bipush (v := (-5 : Int32)) hx hb dX7_times_306 (by decide) ?_
        refine lv_goto (tgt := 316) hx hb dX7_times_308 (by decide) ?_
        cases hf
        exact W.iret hx hb hr (fun t ht hW => ⟨⟨_, (), rfl, rfl, toT ht hP⟩, hS.F ht⟩) hS.2.2 dX7_times_316 hlocks
    · rw [if_neg (c_1)] at hf
      refine lv_iconst (v := 0) hx hb dX7_times_111 (by decide) ?_
      refine lv_istore (lv' := [(7, .int (0 : Int32)), (0, .ref (qM 0)), (1, .int x1), (2, .int x2), (3, .int x3), (5, .int x5), (6, .int x6)]) hx hb dX7_times_112 hl (by decide) rfl (fun ls hl => ?_)
      exact b_X7_times_114 qM   C0 (fun zM_ x1_ x2_ x3_ x5_ x6_ => f_X7_times_103  fu zM_ x1_ x2_ x3_ x5_ x6_) ih fuel zM x1 x2 x3 x5 x6 (0 : Int32) H locs ls hP hD hS (lv_sub hl [1, 2, 3, 4, 5, 6, 0] rfl) hf
def f_X7_times_59 (zM : MdS) (x1 : Int32) (x2 : Int32) (x3 : Int32) (v1 : Int32) : Option (Int32 × MdS) := (f_X7_refused zM v1).bind fun r_1 => if r_1.1 = 0 then (f_X7_termsOf r_1.2 x2).bind fun r_3 => (f_X7_termsOf r_1.2 x3).bind fun r_4 => if (r_3 * r_4) ≤ (100 : Int32) then (f_X7_empty (uM_isFull r_1.2 (0 : Int32)) (8 : Int32)).bind fun r_6 => f_X7_times_103 fuel r_6 x1 x2 x3 (0 : Int32) (0 : Int32) else some ((-4 : Int32), r_1.2) else some ((0 : Int32), r_1.2)
set_option maxHeartbeats 4000000 in
set_option maxRecDepth 100000 in
theorem b_X7_times_59 {p : Program} {l : Launch} {e : Env} {s : State} {m : MethodId} {args : Array Value} {below : List Frame} {meth : Method} {c : Code} {G : va_G} {cA : Nat → ClassId} {W9 : va_W} (qM : Nat → Nat) (C0 : Amb p s m args meth c cX7_times RX7 10 (some .int) G cA (adr W9) []) {res : Int32 × MdS} : ∀ (zM : MdS) (x1 : Int32) (x2 : Int32) (x3 : Int32) (v1 : Int32) (H : Heap) (locs : List Loc) (ls : Array Slot), va_P G vwCl ((wMd cA qM zM)) H → va_D (adr W9) ((wMd cA qM zM)) → va_S (adr W9) s.heap H locs → lv_has ls 10 [(0, .ref (qM 0)), (1, .int x1), (2, .int x2), (3, .int x3)] → f_X7_times_59 zM x1 x2 x3 v1 = some res → W p l e rm_X7_times s m args below meth c H locs 0 0 (MQ below (qWi G W9 ((wMd cA qM res.2)) res.1) args s 0 0 (adr W9)) (F0 m 59 ls [.int v1, .ref (qM 0)]) := by
  obtain ⟨hx, hb, hr, hml, hown, hts, hlocks, hK, hR, hRA⟩ := id C0
  intro zM x1 x2 x3 v1 H locs ls hP hD hS hl hf
  unfold f_X7_times_59 at hf
  obtain ⟨r_1, hr_1, hf⟩ := obd hf
  refine cWiV (As := [.int v1]) (rest := []) (W1 := ((wMd cA qM r_1.2))) ⟨hx, hb, hml, hown, hts⟩ (m_X7_refused l G cA qM zM v1 r_1 hr_1) (cw_X7_refused hts wi_723 ⟨Nat.le_of_ble_eq_true rfl, Nat.le_of_ble_eq_true rfl⟩) hK hP hD hS [0, 1, 2, 3, 4] [5, 6, 7, 8, 9] rfl rfl rfl (by decide) rfl va_Pnil dj_nil (va_recv hK.1 hP (ci := 5) (q0 := 0) rfl rfl) rfl hl.1 rfl (Nat.le_of_ble_eq_true rfl) dX7_times_59 ⟨Nat.zero_le _, Nat.zero_le _⟩ (fun H locs hP hD hS => ?_)
  refine lv_if_eq (tgt := 67) hx hb dX7_times_62 (by decide) (fun c_2 => ?_) (fun c_2 => ?_)
  · rw [if_pos (c_2)] at hf
    refine lv_aload_n hx hb dX7_times_67 rfl (lv_at hl 0 rfl) ?_
    refine lv_iload_n hx hb dX7_times_68 rfl (lv_at hl 2 rfl) ?_
    obtain ⟨r_3, hr_3, hf⟩ := obd hf
    refine cRiV (As := [.int x2]) (rest := []) ⟨hx, hb, hml, hown, hts⟩ (m_X7_termsOf l G cA qM r_1.2 x2 r_3 hr_3) (cw_X7_termsOf hts wi_798 ⟨Nat.le_of_ble_eq_true rfl, Nat.le_of_ble_eq_true rfl⟩) hK (pk hP [0, 1, 2, 3, 4] rfl) (va_recv hK.1 hP (ci := 5) (q0 := 0) rfl rfl) rfl hl.1 rfl (Nat.le_of_ble_eq_true rfl) dX7_times_69 ⟨Nat.zero_le _, Nat.zero_le _⟩ ?_
    refine lv_aload_n hx hb dX7_times_72 rfl (lv_at hl 0 rfl) ?_
    refine lv_iload_n hx hb dX7_times_73 rfl (lv_at hl 3 rfl) ?_
    obtain ⟨r_4, hr_4, hf⟩ := obd hf
    refine cRiV (As := [.int x3]) (rest := [.int r_3]) ⟨hx, hb, hml, hown, hts⟩ (m_X7_termsOf l G cA qM r_1.2 x3 r_4 hr_4) (cw_X7_termsOf hts wi_798 ⟨Nat.le_of_ble_eq_true rfl, Nat.le_of_ble_eq_true rfl⟩) hK (pk hP [0, 1, 2, 3, 4] rfl) (va_recv hK.1 hP (ci := 5) (q0 := 0) rfl rfl) rfl hl.1 rfl (Nat.le_of_ble_eq_true rfl) dX7_times_74 ⟨Nat.zero_le _, Nat.zero_le _⟩ ?_
    refine lv_imul hx hb dX7_times_77 ?_
    refine lv_bipush (v := (100 : Int32)) hx hb dX7_times_78 (by decide) ?_
    refine lv_icmp_le (tgt := 86) hx hb dX7_times_80 (by decide) (fun c_5 => ?_) (fun c_5 => ?_)
    · rw [if_pos (c_5)] at hf
      refine lv_aload_n hx hb dX7_times_86 rfl (lv_at hl 0 rfl) ?_
      refine lv_iconst (v := 0) hx hb dX7_times_87 (by decide) ?_
      refine va_put (D := G) (ci := 5) (v := .int (0 : Int32)) (ty := .boolean) (C := RX7) (T := TX7) (N := 13) hx hb hts fin_X7 tyX7 tyX7_ok nmX7 hown hK.1 hP hD hS 0 rfl rfl 8 (by decide) (hts _ wi_679) (fun _ h9 => h9) rfl (by decide +kernel) (by decide) (by decide) (Nat.le_of_ble_eq_true rfl) dX7_times_88 (fun H locs hP hD hS => ?_)
      have hP : va_P G vwCl ((wMd cA qM (uM_isFull r_1.2 (0 : Int32)))) H := hP
      have hD : va_D (adr W9) ((wMd cA qM (uM_isFull r_1.2 (0 : Int32)))) := hD
      refine lv_aload_n hx hb dX7_times_91 rfl (lv_at hl 0 rfl) ?_
      refine lv_bipush (v := (8 : Int32)) hx hb dX7_times_92 (by decide) ?_
      obtain ⟨r_6, hr_6, hf⟩ := obd hf
      refine cWvV (As := [.int (8 : Int32)]) (rest := []) (W1 := ((wMd cA qM r_6))) ⟨hx, hb, hml, hown, hts⟩ (m_X7_empty l G cA qM (uM_isFull r_1.2 (0 : Int32)) (8 : Int32) r_6 hr_6) (cw_X7_empty hts wi_738 ⟨Nat.le_of_ble_eq_true rfl, Nat.le_of_ble_eq_true rfl⟩) hK hP hD hS [0, 1, 2, 3, 4] [5, 6, 7, 8, 9] rfl rfl rfl (by decide) rfl va_Pnil dj_nil (va_recv hK.1 hP (ci := 5) (q0 := 0) rfl rfl) rfl hl.1 rfl (Nat.le_of_ble_eq_true rfl) dX7_times_94 ⟨Nat.zero_le _, Nat.zero_le _⟩ (fun H locs hP hD hS => ?_)
      refine lv_iconst (v := 0) hx hb dX7_times_97 (by decide) ?_
      refine lv_istore (lv' := [(5, .int (0 : Int32)), (0, .ref (qM 0)), (1, .int x1), (2, .int x2), (3, .int x3)]) hx hb dX7_times_98 hl (by decide) rfl (fun ls hl => ?_)
      refine lv_iconst (v := 0) hx hb dX7_times_100 (by decide) ?_
      refine lv_istore (lv' := [(6, .int (0 : Int32)), (5, .int (0 : Int32)), (0, .ref (qM 0)), (1, .int x1), (2, .int x2), (3, .int x3)]) hx hb dX7_times_101 hl (by decide) rfl (fun ls hl => ?_)
      exact b_X7_times_103 qM   C0  fuel r_6 x1 x2 x3 (0 : Int32) (0 : Int32) H locs ls hP hD hS (lv_sub hl [2, 3, 4, 5, 1, 0] rfl) hf
    · rw [if_neg (c_5)] at hf
      refine lv_bipush (v := (-4 : Int32)) hx hb dX7_times_83 (by decide) ?_
      cases hf
      exact W.iret hx hb hr (fun t ht hW => ⟨⟨_, (), rfl, rfl, toT ht hP⟩, hS.F ht⟩) hS.2.2 dX7_times_85 hlocks
  · rw [if_neg (c_2)] at hf
    refine lv_iconst (v := 0) hx hb dX7_times_65 (by decide) ?_
    cases hf
    exact W.iret hx hb hr (fun t ht hW => ⟨⟨_, (), rfl, rfl, toT ht hP⟩, hS.F ht⟩) hS.2.2 dX7_times_66 hlocks
def f_X7_times_54 (zM : MdS) (x1 : Int32) (x2 : Int32) (x3 : Int32) : Option (Int32 × MdS) := f_X7_times_59  zM x1 x2 x3 (2 : Int32)
set_option maxHeartbeats 4000000 in
set_option maxRecDepth 100000 in
theorem b_X7_times_54 {p : Program} {l : Launch} {e : Env} {s : State} {m : MethodId} {args : Array Value} {below : List Frame} {meth : Method} {c : Code} {G : va_G} {cA : Nat → ClassId} {W9 : va_W} (qM : Nat → Nat) (C0 : Amb p s m args meth c cX7_times RX7 10 (some .int) G cA (adr W9) []) {res : Int32 × MdS} : ∀ (zM : MdS) (x1 : Int32) (x2 : Int32) (x3 : Int32) (H : Heap) (locs : List Loc) (ls : Array Slot), va_P G vwCl ((wMd cA qM zM)) H → va_D (adr W9) ((wMd cA qM zM)) → va_S (adr W9) s.heap H locs → lv_has ls 10 [(0, .ref (qM 0)), (1, .int x1), (2, .int x2), (3, .int x3)] → f_X7_times_54 zM x1 x2 x3 = some res → W p l e rm_X7_times s m args below meth c H locs 0 0 (MQ below (qWi G W9 ((wMd cA qM res.2)) res.1) args s 0 0 (adr W9)) (F0 m 54 ls [.ref (qM 0)]) := by
  obtain ⟨hx, hb, hr, hml, hown, hts, hlocks, hK, hR, hRA⟩ := id C0
  intro zM x1 x2 x3 H locs ls hP hD hS hl hf
  unfold f_X7_times_54 at hf
  refine lv_iconst (v := 2) hx hb dX7_times_54 (by decide) ?_
  refine lv_goto (tgt := 59) hx hb dX7_times_55 (by decide) ?_
  exact b_X7_times_59 qM   C0  zM x1 x2 x3 (2 : Int32) H locs ls hP hD hS (lv_sub hl [0, 1, 2, 3] rfl) hf
def f_X7_times_26 (zM : MdS) (x1 : Int32) (x2 : Int32) (x3 : Int32) (v0 : Int32) : Option (Int32 × MdS) := if ¬ v0 = 0 then (f_X7_isSmall zM x2).bind fun r_2 => if r_2 = 0 then f_X7_times_54  zM x1 x2 x3 else (f_X7_isSmall zM x3).bind fun r_4 => if ¬ r_4 = 0 then f_X7_times_59  zM x1 x2 x3 (0 : Int32) else f_X7_times_54  zM x1 x2 x3 else f_X7_times_59  zM x1 x2 x3 (1 : Int32)
set_option maxHeartbeats 4000000 in
set_option maxRecDepth 100000 in
theorem b_X7_times_26 {p : Program} {l : Launch} {e : Env} {s : State} {m : MethodId} {args : Array Value} {below : List Frame} {meth : Method} {c : Code} {G : va_G} {cA : Nat → ClassId} {W9 : va_W} (qM : Nat → Nat) (C0 : Amb p s m args meth c cX7_times RX7 10 (some .int) G cA (adr W9) []) {res : Int32 × MdS} : ∀ (zM : MdS) (x1 : Int32) (x2 : Int32) (x3 : Int32) (v0 : Int32) (H : Heap) (locs : List Loc) (ls : Array Slot), va_P G vwCl ((wMd cA qM zM)) H → va_D (adr W9) ((wMd cA qM zM)) → va_S (adr W9) s.heap H locs → lv_has ls 10 [(0, .ref (qM 0)), (1, .int x1), (2, .int x2), (3, .int x3)] → f_X7_times_26 zM x1 x2 x3 v0 = some res → W p l e rm_X7_times s m args below meth c H locs 0 0 (MQ below (qWi G W9 ((wMd cA qM res.2)) res.1) args s 0 0 (adr W9)) (F0 m 26 ls [.int v0]) := by
  obtain ⟨hx, hb, hr, hml, hown, hts, hlocks, hK, hR, hRA⟩ := id C0
  intro zM x1 x2 x3 v0 H locs ls hP hD hS hl hf
  unfold f_X7_times_26 at hf
  refine lv_istore (lv' := [(4, .int v0), (0, .ref (qM 0)), (1, .int x1), (2, .int x2), (3, .int x3)]) hx hb dX7_times_26 hl (by decide) rfl (fun ls hl => ?_)
  refine lv_aload_n hx hb dX7_times_28 rfl (lv_at hl 1 rfl) ?_
  refine lv_iload hx hb dX7_times_29 (lv_at hl 0 rfl) ?_
  refine lv_if_ne (tgt := 38) hx hb dX7_times_31 (by decide) (fun c_1 => ?_) (fun c_1 => ?_)
  · rw [if_pos (c_1)] at hf
    refine lv_aload_n hx hb dX7_times_38 rfl (lv_at hl 1 rfl) ?_
    refine lv_iload_n hx hb dX7_times_39 rfl (lv_at hl 3 rfl) ?_
    obtain ⟨r_2, hr_2, hf⟩ := obd hf
    refine cRiV (As := [.int x2]) (rest := [.ref (qM 0)]) ⟨hx, hb, hml, hown, hts⟩ (m_X7_isSmall l G cA qM zM x2 r_2 hr_2) (cw_X7_isSmall hts wi_847 ⟨Nat.le_of_ble_eq_true rfl, Nat.le_of_ble_eq_true rfl⟩) hK (pk hP [0, 1, 2, 3, 4] rfl) (va_recv hK.1 hP (ci := 5) (q0 := 0) rfl rfl) rfl hl.1 rfl (Nat.le_of_ble_eq_true rfl) dX7_times_40 ⟨Nat.zero_le _, Nat.zero_le _⟩ ?_
    refine lv_if_eq (tgt := 54) hx hb dX7_times_43 (by decide) (fun c_3 => ?_) (fun c_3 => ?_)
    · rw [if_pos (c_3)] at hf
      exact b_X7_times_54 qM   C0  zM x1 x2 x3 H locs ls hP hD hS (lv_sub hl [1, 2, 3, 4] rfl) hf
    · rw [if_neg (c_3)] at hf
      refine lv_aload_n hx hb dX7_times_46 rfl (lv_at hl 1 rfl) ?_
      refine lv_iload_n hx hb dX7_times_47 rfl (lv_at hl 4 rfl) ?_
      obtain ⟨r_4, hr_4, hf⟩ := obd hf
      refine cRiV (As := [.int x3]) (rest := [.ref (qM 0)]) ⟨hx, hb, hml, hown, hts⟩ (m_X7_isSmall l G cA qM zM x3 r_4 hr_4) (cw_X7_isSmall hts wi_847 ⟨Nat.le_of_ble_eq_true rfl, Nat.le_of_ble_eq_true rfl⟩) hK (pk hP [0, 1, 2, 3, 4] rfl) (va_recv hK.1 hP (ci := 5) (q0 := 0) rfl rfl) rfl hl.1 rfl (Nat.le_of_ble_eq_true rfl) dX7_times_48 ⟨Nat.zero_le _, Nat.zero_le _⟩ ?_
      refine lv_if_ne (tgt := 58) hx hb dX7_times_51 (by decide) (fun c_5 => ?_) (fun c_5 => ?_)
      · rw [if_pos (c_5)] at hf
        refine lv_iconst (v := 0) hx hb dX7_times_58 (by decide) ?_
        exact b_X7_times_59 qM   C0  zM x1 x2 x3 (0 : Int32) H locs ls hP hD hS (lv_sub hl [1, 2, 3, 4] rfl) hf
      · rw [if_neg (not_not_intro c_5)] at hf
        exact b_X7_times_54 qM   C0  zM x1 x2 x3 H locs ls hP hD hS (lv_sub hl [1, 2, 3, 4] rfl) hf
  · rw [if_neg (not_not_intro c_1)] at hf
    refine lv_iconst (v := 1) hx hb dX7_times_34 (by decide) ?_
    refine lv_goto (tgt := 59) hx hb dX7_times_35 (by decide) ?_
    exact b_X7_times_59 qM   C0  zM x1 x2 x3 (1 : Int32) H locs ls hP hD hS (lv_sub hl [1, 2, 3, 4] rfl) hf
def f_X7_times_25 (zM : MdS) (x1 : Int32) (x2 : Int32) (x3 : Int32) : Option (Int32 × MdS) := f_X7_times_26  zM x1 x2 x3 (0 : Int32)
set_option maxHeartbeats 4000000 in
set_option maxRecDepth 100000 in
theorem b_X7_times_25 {p : Program} {l : Launch} {e : Env} {s : State} {m : MethodId} {args : Array Value} {below : List Frame} {meth : Method} {c : Code} {G : va_G} {cA : Nat → ClassId} {W9 : va_W} (qM : Nat → Nat) (C0 : Amb p s m args meth c cX7_times RX7 10 (some .int) G cA (adr W9) []) {res : Int32 × MdS} : ∀ (zM : MdS) (x1 : Int32) (x2 : Int32) (x3 : Int32) (H : Heap) (locs : List Loc) (ls : Array Slot), va_P G vwCl ((wMd cA qM zM)) H → va_D (adr W9) ((wMd cA qM zM)) → va_S (adr W9) s.heap H locs → lv_has ls 10 [(0, .ref (qM 0)), (1, .int x1), (2, .int x2), (3, .int x3)] → f_X7_times_25 zM x1 x2 x3 = some res → W p l e rm_X7_times s m args below meth c H locs 0 0 (MQ below (qWi G W9 ((wMd cA qM res.2)) res.1) args s 0 0 (adr W9)) (F0 m 25 ls []) := by
  obtain ⟨hx, hb, hr, hml, hown, hts, hlocks, hK, hR, hRA⟩ := id C0
  intro zM x1 x2 x3 H locs ls hP hD hS hl hf
  unfold f_X7_times_25 at hf
  refine lv_iconst (v := 0) hx hb dX7_times_25 (by decide) ?_
  exact b_X7_times_26 qM   C0  zM x1 x2 x3 (0 : Int32) H locs ls hP hD hS (lv_sub hl [0, 1, 2, 3] rfl) hf
def f_X7_times (zM : MdS) (a1 : Int32) (a2 : Int32) (a3 : Int32) : Option (Int32 × MdS) := (f_X7_isSlot a1).bind fun r_1 => if r_1 = 0 then f_X7_times_25  zM a1 a2 a3 else (f_X7_isSlot a2).bind fun r_3 => if r_3 = 0 then f_X7_times_25  zM a1 a2 a3 else (f_X7_isSlot a3).bind fun r_5 => if r_5 = 0 then f_X7_times_25  zM a1 a2 a3 else f_X7_times_26  zM a1 a2 a3 (1 : Int32)
set_option maxHeartbeats 4000000 in
set_option maxRecDepth 100000 in
theorem b_X7_times_0 {p : Program} {l : Launch} {e : Env} {s : State} {m : MethodId} {args : Array Value} {below : List Frame} {meth : Method} {c : Code} {G : va_G} {cA : Nat → ClassId} {W9 : va_W} (qM : Nat → Nat) (C0 : Amb p s m args meth c cX7_times RX7 10 (some .int) G cA (adr W9) []) {res : Int32 × MdS} : ∀ (zM : MdS) (a1 : Int32) (a2 : Int32) (a3 : Int32) (H : Heap) (locs : List Loc) (ls : Array Slot), va_P G vwCl ((wMd cA qM zM)) H → va_D (adr W9) ((wMd cA qM zM)) → va_S (adr W9) s.heap H locs → lv_has ls 10 [(0, .ref (qM 0)), (1, .int a1), (2, .int a2), (3, .int a3)] → f_X7_times zM a1 a2 a3 = some res → W p l e rm_X7_times s m args below meth c H locs 0 0 (MQ below (qWi G W9 ((wMd cA qM res.2)) res.1) args s 0 0 (adr W9)) (F0 m 0 ls []) := by
  obtain ⟨hx, hb, hr, hml, hown, hts, hlocks, hK, hR, hRA⟩ := id C0
  intro zM a1 a2 a3 H locs ls hP hD hS hl hf
  unfold f_X7_times at hf
  refine lv_iload_n hx hb dX7_times_0 rfl (lv_at hl 1 rfl) ?_
  obtain ⟨r_1, hr_1, hf⟩ := obd hf
  refine cRiS (As := [.int a1]) (rest := []) ⟨hx, hb, hml, hown, hts⟩ (m_X7_isSlot l G cA a1 r_1 hr_1) (cw_X7_isSlot hts wi_735 ⟨Nat.le_of_ble_eq_true rfl, Nat.le_of_ble_eq_true rfl⟩) hK va_Pnil rfl hl.1 rfl (Nat.le_of_ble_eq_true rfl) dX7_times_1 ⟨Nat.zero_le _, Nat.zero_le _⟩ ?_
  refine lv_if_eq (tgt := 25) hx hb dX7_times_4 (by decide) (fun c_2 => ?_) (fun c_2 => ?_)
  · rw [if_pos (c_2)] at hf
    exact b_X7_times_25 qM   C0  zM a1 a2 a3 H locs ls hP hD hS (lv_sub hl [0, 1, 2, 3] rfl) hf
  · rw [if_neg (c_2)] at hf
    refine lv_iload_n hx hb dX7_times_7 rfl (lv_at hl 2 rfl) ?_
    obtain ⟨r_3, hr_3, hf⟩ := obd hf
    refine cRiS (As := [.int a2]) (rest := []) ⟨hx, hb, hml, hown, hts⟩ (m_X7_isSlot l G cA a2 r_3 hr_3) (cw_X7_isSlot hts wi_735 ⟨Nat.le_of_ble_eq_true rfl, Nat.le_of_ble_eq_true rfl⟩) hK va_Pnil rfl hl.1 rfl (Nat.le_of_ble_eq_true rfl) dX7_times_8 ⟨Nat.zero_le _, Nat.zero_le _⟩ ?_
    refine lv_if_eq (tgt := 25) hx hb dX7_times_11 (by decide) (fun c_4 => ?_) (fun c_4 => ?_)
    · rw [if_pos (c_4)] at hf
      exact b_X7_times_25 qM   C0  zM a1 a2 a3 H locs ls hP hD hS (lv_sub hl [0, 1, 2, 3] rfl) hf
    · rw [if_neg (c_4)] at hf
      refine lv_iload_n hx hb dX7_times_14 rfl (lv_at hl 3 rfl) ?_
      obtain ⟨r_5, hr_5, hf⟩ := obd hf
      refine cRiS (As := [.int a3]) (rest := []) ⟨hx, hb, hml, hown, hts⟩ (m_X7_isSlot l G cA a3 r_5 hr_5) (cw_X7_isSlot hts wi_735 ⟨Nat.le_of_ble_eq_true rfl, Nat.le_of_ble_eq_true rfl⟩) hK va_Pnil rfl hl.1 rfl (Nat.le_of_ble_eq_true rfl) dX7_times_15 ⟨Nat.zero_le _, Nat.zero_le _⟩ ?_
      refine lv_if_eq (tgt := 25) hx hb dX7_times_18 (by decide) (fun c_6 => ?_) (fun c_6 => ?_)
      · rw [if_pos (c_6)] at hf
        exact b_X7_times_25 qM   C0  zM a1 a2 a3 H locs ls hP hD hS (lv_sub hl [0, 1, 2, 3] rfl) hf
      · rw [if_neg (c_6)] at hf
        refine lv_iconst (v := 1) hx hb dX7_times_21 (by decide) ?_
        refine lv_goto (tgt := 26) hx hb dX7_times_22 (by decide) ?_
        exact b_X7_times_26 qM   C0  zM a1 a2 a3 (1 : Int32) H locs ls hP hD hS (lv_sub hl [0, 1, 2, 3] rfl) hf

set_option maxRecDepth 100000 in
theorem m_X7_times (l : Launch) (G : va_G) (cA : Nat → ClassId) (qM : Nat → Nat) (zM : MdS) (a1 : Int32) (a2 : Int32) (a3 : Int32) (res : Int32 × MdS) (hf : f_X7_times zM a1 a2 a3 = some res) : MWi l yX7_times (.code yX7_times cX7_times 10 (some .int) :: wd) rm_X7_times G cA [.ref (qM 0), .int a1, .int a2, .int a3] ((wMd cA qM zM)) [] ((wMd cA qM res.2)) res.1 := by
  refine Met.ofW (cc := cX7_times) (maxL := 10) (ret := (some .int)) (by decide) rfl ?_
  intro p e s m args below meth c s₁ B hml hv
  obtain ⟨rfl, hK, hP, hD0, hR, hRA⟩ := hv
  have C0 : Amb p s m ([.ref (qM 0), .int a1, .int a2, .int a3] : List Value).toArray meth c cX7_times RX7 10 (some .int) G cA (adr ((wMd cA qM zM))) [] := ⟨B.exec, B.bytes, B.returns, hml, findClass_of_methodNamed B.named, fun w h => atoms_spec (ws := (.code yX7_times cX7_times 10 (some .int) :: wd)) B.pre w (List.mem_cons_of_mem _ h), B.notSynchronized, hK, hR, hRA⟩
  have hl := lv_entry ([.ref (qM 0), .int a1, .int a2, .int a3]) (n := 10) (Nat.le_of_ble_eq_true rfl)
  rw [lg_entry_eq]
  generalize (lg_sl ([.ref (qM 0), .int a1, .int a2, .int a3]) ++ List.replicate (10 - (lg_sl ([.ref (qM 0), .int a1, .int a2, .int a3])).length) Slot.unset).toArray = ls at hl ⊢
  have hl : lv_has ls 10 [(0, .ref (qM 0)), (1, .int a1), (2, .int a2), (3, .int a3)] := hl
  exact b_X7_times_0 (W9 := ((wMd cA qM zM))) qM   C0 zM a1 a2 a3 s.heap [] ls hP (adr.self hD0) va_S.rf hl hf
theorem cw_X7_times {R : Room} {s : State} {args : Array Value} {own : String} {index : Nat} (ht : ∀ w ∈ wd, w.before args s = true) (hlink : Cond.methodLink own index yX7_times ∈ wd) (hR : rm_X7_times.frames + 1 ≤ R.frames ∧ 8 + (10 + 11) + rm_X7_times.locals ≤ R.locals) : CallW R s args own RX7 index yX7_times cX7_times 10 (some .int) (.code yX7_times cX7_times 10 (some .int) :: wd) rm_X7_times 0 0 3 := cwV9 3 ht wi_857 wi_855 wi_856 wi_60 hlink (by decide +kernel) rfl rfl hR
def rm_X7_derive : Room := { frames := 3, cells := 0, slots := 0, locals := 68 }
def f_X7_derive_246 (kb_41 : MdS → Int32 → Int32 → Int32 → Option (Int32 × MdS)) (zM : MdS) (x1 : Int32) (x2 : Int32) (x3 : Int32) : Option (Int32 × MdS) := kb_41 zM x1 x2 (x3 + 1)
set_option maxHeartbeats 4000000 in
set_option maxRecDepth 100000 in
theorem b_X7_derive_246 {p : Program} {l : Launch} {e : Env} {s : State} {m : MethodId} {args : Array Value} {below : List Frame} {meth : Method} {c : Code} {G : va_G} {cA : Nat → ClassId} {W9 : va_W} (qM : Nat → Nat) (C0 : Amb p s m args meth c cX7_derive RX7 11 (some .int) G cA (adr W9) []) {res : Int32 × MdS} (kb_41 : MdS → Int32 → Int32 → Int32 → Option (Int32 × MdS)) (hkb_41 : ∀ (zM : MdS) (x1 : Int32) (x2 : Int32) (x3 : Int32) (H : Heap) (locs : List Loc) (ls : Array Slot), va_P G vwCl ((wMd cA qM zM)) H → va_D (adr W9) ((wMd cA qM zM)) → va_S (adr W9) s.heap H locs → lv_has ls 11 [(0, .ref (qM 0)), (1, .int x1), (2, .int x2), (3, .int x3)] → kb_41 zM x1 x2 x3 = some res → W p l e rm_X7_derive s m args below meth c H locs 0 0 (MQ below (qWi G W9 ((wMd cA qM res.2)) res.1) args s 0 0 (adr W9)) (F0 m 41 ls [])) : ∀ (zM : MdS) (x1 : Int32) (x2 : Int32) (x3 : Int32) (H : Heap) (locs : List Loc) (ls : Array Slot), va_P G vwCl ((wMd cA qM zM)) H → va_D (adr W9) ((wMd cA qM zM)) → va_S (adr W9) s.heap H locs → lv_has ls 11 [(0, .ref (qM 0)), (1, .int x1), (2, .int x2), (3, .int x3)] → f_X7_derive_246 kb_41 zM x1 x2 x3 = some res → W p l e rm_X7_derive s m args below meth c H locs 0 0 (MQ below (qWi G W9 ((wMd cA qM res.2)) res.1) args s 0 0 (adr W9)) (F0 m 246 ls []) := by
  obtain ⟨hx, hb, hr, hml, hown, hts, hlocks, hK, hR, hRA⟩ := id C0
  intro zM x1 x2 x3 H locs ls hP hD hS hl hf
  unfold f_X7_derive_246 at hf
  refine lv_iinc (v := (x3 + 1)) (lv' := [(3, .int (x3 + 1)), (0, .ref (qM 0)), (1, .int x1), (2, .int x2)]) hx hb dX7_derive_246 hl (k := 3) rfl rfl (by decide) rfl (fun ls hl => ?_)
  refine lv_goto (tgt := 41) hx hb dX7_derive_249 (by decide) ?_
  exact hkb_41 zM x1 x2 (x3 + 1) H locs ls hP hD hS (lv_sub hl [1, 2, 3, 0] rfl) hf
def f_X7_derive_241 (kb_41 : MdS → Int32 → Int32 → Int32 → Option (Int32 × MdS)) (zM : MdS) (x1 : Int32) (x2 : Int32) (x3 : Int32) (x6 : Int64) (v1 : Int32) (v2 : Int32) (v3 : Int32) (v4 : Int32) (v5 : Int64) : Option (Int32 × MdS) := (f_X7_addTerm zM v1 v2 v3 v4 v5 x6).bind fun r_1 => f_X7_derive_246 kb_41 r_1 x1 x2 x3
set_option maxHeartbeats 4000000 in
set_option maxRecDepth 100000 in
theorem b_X7_derive_241 {p : Program} {l : Launch} {e : Env} {s : State} {m : MethodId} {args : Array Value} {below : List Frame} {meth : Method} {c : Code} {G : va_G} {cA : Nat → ClassId} {W9 : va_W} (qM : Nat → Nat) (C0 : Amb p s m args meth c cX7_derive RX7 11 (some .int) G cA (adr W9) []) {res : Int32 × MdS} (kb_41 : MdS → Int32 → Int32 → Int32 → Option (Int32 × MdS)) (hkb_41 : ∀ (zM : MdS) (x1 : Int32) (x2 : Int32) (x3 : Int32) (H : Heap) (locs : List Loc) (ls : Array Slot), va_P G vwCl ((wMd cA qM zM)) H → va_D (adr W9) ((wMd cA qM zM)) → va_S (adr W9) s.heap H locs → lv_has ls 11 [(0, .ref (qM 0)), (1, .int x1), (2, .int x2), (3, .int x3)] → kb_41 zM x1 x2 x3 = some res → W p l e rm_X7_derive s m args below meth c H locs 0 0 (MQ below (qWi G W9 ((wMd cA qM res.2)) res.1) args s 0 0 (adr W9)) (F0 m 41 ls [])) : ∀ (zM : MdS) (x1 : Int32) (x2 : Int32) (x3 : Int32) (x6 : Int64) (v1 : Int32) (v2 : Int32) (v3 : Int32) (v4 : Int32) (v5 : Int64) (H : Heap) (locs : List Loc) (ls : Array Slot), va_P G vwCl ((wMd cA qM zM)) H → va_D (adr W9) ((wMd cA qM zM)) → va_S (adr W9) s.heap H locs → lv_has ls 11 [(0, .ref (qM 0)), (1, .int x1), (2, .int x2), (3, .int x3), (6, .long x6)] → f_X7_derive_241 kb_41 zM x1 x2 x3 x6 v1 v2 v3 v4 v5 = some res → W p l e rm_X7_derive s m args below meth c H locs 0 0 (MQ below (qWi G W9 ((wMd cA qM res.2)) res.1) args s 0 0 (adr W9)) (F0 m 241 ls [.long v5, .int v4, .int v3, .int v2, .int v1, .ref (qM 0)]) := by
  obtain ⟨hx, hb, hr, hml, hown, hts, hlocks, hK, hR, hRA⟩ := id C0
  intro zM x1 x2 x3 x6 v1 v2 v3 v4 v5 H locs ls hP hD hS hl hf
  unfold f_X7_derive_241 at hf
  refine lv_lload hx hb dX7_derive_241 (lv_at hl 4 rfl) ?_
  obtain ⟨r_1, hr_1, hf⟩ := obd hf
  refine cWvV (As := [.int v1, .int v2, .int v3, .int v4, .long v5, .long x6]) (rest := []) (W1 := ((wMd cA qM r_1))) ⟨hx, hb, hml, hown, hts⟩ (m_X7_addTerm l G cA qM zM v1 v2 v3 v4 v5 x6 r_1 hr_1) (cw_X7_addTerm hts wi_772 ⟨Nat.le_of_ble_eq_true rfl, Nat.le_of_ble_eq_true rfl⟩) hK hP hD hS [0, 1, 2, 3, 4] [5, 6, 7, 8, 9] rfl rfl rfl (by decide) rfl va_Pnil dj_nil (va_recv hK.1 hP (ci := 5) (q0 := 0) rfl rfl) rfl hl.1 rfl (Nat.le_of_ble_eq_true rfl) dX7_derive_243 ⟨Nat.zero_le _, Nat.zero_le _⟩ (fun H locs hP hD hS => ?_)
  exact b_X7_derive_246 qM   C0 kb_41 hkb_41 r_1 x1 x2 x3 H locs ls hP hD hS (lv_sub hl [0, 1, 2, 3] rfl) hf
def f_X7_derive_215 (kb_41 : MdS → Int32 → Int32 → Int32 → Option (Int32 × MdS)) (zM : MdS) (x1 : Int32) (x2 : Int32) (x3 : Int32) (x4 : Int64) (x6 : Int64) (x8 : Int32) (x9 : Int32) (x10 : Int32) (v1 : Int32) (v2 : Int32) : Option (Int32 × MdS) := if ¬ x9 = (3 : Int32) then f_X7_derive_241 kb_41 zM x1 x2 x3 x6 v1 v2 x10 x8 ((-x4) * x10.toInt64) else f_X7_derive_241 kb_41 zM x1 x2 x3 x6 v1 v2 x10 x8 (x4 * x10.toInt64)
set_option maxHeartbeats 4000000 in
set_option maxRecDepth 100000 in
theorem b_X7_derive_215 {p : Program} {l : Launch} {e : Env} {s : State} {m : MethodId} {args : Array Value} {below : List Frame} {meth : Method} {c : Code} {G : va_G} {cA : Nat → ClassId} {W9 : va_W} (qM : Nat → Nat) (C0 : Amb p s m args meth c cX7_derive RX7 11 (some .int) G cA (adr W9) []) {res : Int32 × MdS} (kb_41 : MdS → Int32 → Int32 → Int32 → Option (Int32 × MdS)) (hkb_41 : ∀ (zM : MdS) (x1 : Int32) (x2 : Int32) (x3 : Int32) (H : Heap) (locs : List Loc) (ls : Array Slot), va_P G vwCl ((wMd cA qM zM)) H → va_D (adr W9) ((wMd cA qM zM)) → va_S (adr W9) s.heap H locs → lv_has ls 11 [(0, .ref (qM 0)), (1, .int x1), (2, .int x2), (3, .int x3)] → kb_41 zM x1 x2 x3 = some res → W p l e rm_X7_derive s m args below meth c H locs 0 0 (MQ below (qWi G W9 ((wMd cA qM res.2)) res.1) args s 0 0 (adr W9)) (F0 m 41 ls [])) : ∀ (zM : MdS) (x1 : Int32) (x2 : Int32) (x3 : Int32) (x4 : Int64) (x6 : Int64) (x8 : Int32) (x9 : Int32) (x10 : Int32) (v1 : Int32) (v2 : Int32) (H : Heap) (locs : List Loc) (ls : Array Slot), va_P G vwCl ((wMd cA qM zM)) H → va_D (adr W9) ((wMd cA qM zM)) → va_S (adr W9) s.heap H locs → lv_has ls 11 [(0, .ref (qM 0)), (1, .int x1), (2, .int x2), (3, .int x3), (4, .long x4), (6, .long x6), (8, .int x8), (9, .int x9), (10, .int x10)] → f_X7_derive_215 kb_41 zM x1 x2 x3 x4 x6 x8 x9 x10 v1 v2 = some res → W p l e rm_X7_derive s m args below meth c H locs 0 0 (MQ below (qWi G W9 ((wMd cA qM res.2)) res.1) args s 0 0 (adr W9)) (F0 m 215 ls [.int v2, .int v1, .ref (qM 0)]) := by
  obtain ⟨hx, hb, hr, hml, hown, hts, hlocks, hK, hR, hRA⟩ := id C0
  intro zM x1 x2 x3 x4 x6 x8 x9 x10 v1 v2 H locs ls hP hD hS hl hf
  unfold f_X7_derive_215 at hf
  refine lv_iload hx hb dX7_derive_215 (lv_at hl 8 rfl) ?_
  refine lv_iload hx hb dX7_derive_217 (lv_at hl 6 rfl) ?_
  refine lv_iload hx hb dX7_derive_219 (lv_at hl 7 rfl) ?_
  refine lv_iconst (v := 3) hx hb dX7_derive_221 (by decide) ?_
  refine lv_icmp_ne (tgt := 234) hx hb dX7_derive_222 (by decide) (fun c_1 => ?_) (fun c_1 => ?_)
  · rw [if_pos (c_1)] at hf
    refine lv_lload hx hb dX7_derive_234 (lv_at hl 4 rfl) ?_
    refine lv_lneg hx hb dX7_derive_236 ?_
    refine lv_iload hx hb dX7_derive_237 (lv_at hl 8 rfl) ?_
    refine lv_i2l (v := x10.toInt64) hx hb dX7_derive_239 rfl ?_
    refine lv_lmul hx hb dX7_derive_240 ?_
    exact b_X7_derive_241 qM   C0 kb_41 hkb_41 zM x1 x2 x3 x6 v1 v2 x10 x8 ((-x4) * x10.toInt64) H locs ls hP hD hS (lv_sub hl [0, 1, 2, 3, 5] rfl) hf
  · rw [if_neg (not_not_intro c_1)] at hf
    refine lv_lload hx hb dX7_derive_225 (lv_at hl 4 rfl) ?_
    refine lv_iload hx hb dX7_derive_227 (lv_at hl 8 rfl) ?_
    refine lv_i2l (v := x10.toInt64) hx hb dX7_derive_229 rfl ?_
    refine lv_lmul hx hb dX7_derive_230 ?_
    refine lv_goto (tgt := 241) hx hb dX7_derive_231 (by decide) ?_
    exact b_X7_derive_241 qM   C0 kb_41 hkb_41 zM x1 x2 x3 x6 v1 v2 x10 x8 (x4 * x10.toInt64) H locs ls hP hD hS (lv_sub hl [0, 1, 2, 3, 5] rfl) hf
def f_X7_derive_41  : Nat → MdS → Int32 → Int32 → Int32 → Option (Int32 × MdS)
  | 0, _, _, _, _ => none
  | fu + 1, zM, x1, x2, x3 => if (1150 : Int32) ≤ x3 then (f_X7_finish zM x1).bind fun r_2 => some (r_2.1, r_2.2) else if inb (((1150 : Int32) * x2) + x3) 11500 = true then (some ((gM_up zM (((1150 : Int32) * x2) + x3).toNatClampNeg))).bind fun y_4 => if inb (((1150 : Int32) * x2) + x3) 11500 = true then (some ((gM_down zM (((1150 : Int32) * x2) + x3).toNatClampNeg))).bind fun y_6 => (some (((x3 - x3 / (25 : Int32) * (25 : Int32)) - (12 : Int32)))).bind fun y_7 => (f_X7_kindOf (x3 / (25 : Int32))).bind fun r_8 => (f_X7_countOf (x3 / (25 : Int32))).bind fun r_9 => if ¬ y_4 = (0 : Int64) then (f_X7_addTerm zM (8 : Int32) r_8 r_9 (y_7 - (1 : Int32)) (y_4 * y_7.toInt64) y_6).bind fun r_11 => if ¬ r_8 = (1 : Int32) then if ¬ r_8 = (2 : Int32) then if r_8 ≤ (2 : Int32) then f_X7_derive_246 (fun zM_ x1_ x2_ x3_ => f_X7_derive_41  fu zM_ x1_ x2_ x3_) r_11 x1 x2 x3 else if ¬ r_8 = (3 : Int32) then f_X7_derive_215 (fun zM_ x1_ x2_ x3_ => f_X7_derive_41  fu zM_ x1_ x2_ x3_) r_11 x1 x2 x3 y_4 y_6 y_7 r_8 r_9 (8 : Int32) (3 : Int32) else f_X7_derive_215 (fun zM_ x1_ x2_ x3_ => f_X7_derive_41  fu zM_ x1_ x2_ x3_) r_11 x1 x2 x3 y_4 y_6 y_7 r_8 r_9 (8 : Int32) (4 : Int32) else (f_X7_addTerm r_11 (8 : Int32) (2 : Int32) r_9 y_7 (y_4 * r_9.toInt64) y_6).bind fun r_16 => f_X7_derive_246 (fun zM_ x1_ x2_ x3_ => f_X7_derive_41  fu zM_ x1_ x2_ x3_) r_16 x1 x2 x3 else (f_X7_addTerm r_11 (8 : Int32) (1 : Int32) (r_9 - (1 : Int32)) (y_7 - (1 : Int32)) (y_4 * r_9.toInt64) y_6).bind fun r_17 => f_X7_derive_246 (fun zM_ x1_ x2_ x3_ => f_X7_derive_41  fu zM_ x1_ x2_ x3_) r_17 x1 x2 x3 else f_X7_derive_246 (fun zM_ x1_ x2_ x3_ => f_X7_derive_41  fu zM_ x1_ x2_ x3_) zM x1 x2 x3 else none else none
set_option maxHeartbeats 4000000 in
set_option maxRecDepth 100000 in
theorem b_X7_derive_41 {p : Program} {l : Launch} {e : Env} {s : State} {m : MethodId} {args : Array Value} {below : List Frame} {meth : Method} {c : Code} {G : va_G} {cA : Nat → ClassId} {W9 : va_W} (qM : Nat → Nat) (C0 : Amb p s m args meth c cX7_derive RX7 11 (some .int) G cA (adr W9) []) {res : Int32 × MdS} : ∀ (fu : Nat) (zM : MdS) (x1 : Int32) (x2 : Int32) (x3 : Int32) (H : Heap) (locs : List Loc) (ls : Array Slot), va_P G vwCl ((wMd cA qM zM)) H → va_D (adr W9) ((wMd cA qM zM)) → va_S (adr W9) s.heap H locs → lv_has ls 11 [(0, .ref (qM 0)), (1, .int x1), (2, .int x2), (3, .int x3)] → f_X7_derive_41 fu zM x1 x2 x3 = some res → W p l e rm_X7_derive s m args below meth c H locs 0 0 (MQ below (qWi G W9 ((wMd cA qM res.2)) res.1) args s 0 0 (adr W9)) (F0 m 41 ls []) := by
  obtain ⟨hx, hb, hr, hml, hown, hts, hlocks, hK, hR, hRA⟩ := id C0
  intro fu
  induction fu with
  | zero =>
    intro zM x1 x2 x3 H locs ls hP hD hS hl hf
    rw [f_X7_derive_41] at hf
    cases hf
  | succ fu ih =>
    intro zM x1 x2 x3 H locs ls hP hD hS hl hf
    rw [f_X7_derive_41] at hf
    refine lv_iload_n hx hb dX7_derive_41 rfl (lv_at hl 3 rfl) ?_
    refine lv_sipush (v := (1150 : Int32)) hx hb dX7_derive_42 (by decide) ?_
    refine lv_icmp_ge (tgt := 252) hx hb dX7_derive_45 (by decide) (fun c_1 => ?_) (fun c_1 => ?_)
    · rw [if_pos (c_1)] at hf
      refine lv_aload_n hx hb dX7_derive_252 rfl (lv_at hl 0 rfl) ?_
      refine lv_iload_n hx hb dX7_derive_253 rfl (lv_at hl 1 rfl) ?_
      obtain ⟨r_2, hr_2, hf⟩ := obd hf
      refine cWiV (As := [.int x1]) (rest := []) (W1 := ((wMd cA qM r_2.2))) ⟨hx, hb, hml, hown, hts⟩ (m_X7_finish l G cA qM zM x1 r_2 hr_2) (cw_X7_finish hts wi_790 ⟨Nat.le_of_ble_eq_true rfl, Nat.le_of_ble_eq_true rfl⟩) hK hP hD hS [0, 1, 2, 3, 4] [5, 6, 7, 8, 9] rfl rfl rfl (by decide) rfl va_Pnil dj_nil (va_recv hK.1 hP (ci := 5) (q0 := 0) rfl rfl) rfl hl.1 rfl (Nat.le_of_ble_eq_true rfl) dX7_derive_254 ⟨Nat.zero_le _, Nat.zero_le _⟩ (fun H locs hP hD hS => ?_)
      cases hf
      exact W.iret hx hb hr (fun t ht hW => ⟨⟨_, (), rfl, rfl, toT ht hP⟩, hS.F ht⟩) hS.2.2 dX7_derive_257 hlocks
    · rw [if_neg (c_1)] at hf
      refine lv_aload_n hx hb dX7_derive_48 rfl (lv_at hl 0 rfl) ?_
      refine va_get (D := G) (ci := 5) (v := .ref (qM 3)) (C := RX7) (T := TX7) (N := 13) hx hb hts fin_X7 hown hK.1 hP 0 rfl rfl 6 (by decide) (hts _ wi_677) (fun _ h9 => h9) rfl dX7_derive_49 ?_
      refine lv_sipush (v := (1150 : Int32)) hx hb dX7_derive_52 (by decide) ?_
      refine lv_iload_n hx hb dX7_derive_55 rfl (lv_at hl 2 rfl) ?_
      refine lv_imul hx hb dX7_derive_56 ?_
      refine lv_iload_n hx hb dX7_derive_57 rfl (lv_at hl 3 rfl) ?_
      refine lv_iadd hx hb dX7_derive_58 ?_
      obtain ⟨hi_3, hf⟩ := oif hf
      refine va_lald hx hb hK.1 hP 3 1 rfl rfl (inb_in hi_3) dX7_derive_59 ?_
      obtain ⟨y_4, hq, hf⟩ := obd hf
      have hy_4 : (gM_up zM (((1150 : Int32) * x2) + x3).toNatClampNeg) = y_4 := Option.some.inj hq
      rw [hy_4]
      refine lv_lstore (lv' := [(4, .long y_4), (0, .ref (qM 0)), (1, .int x1), (2, .int x2), (3, .int x3)]) hx hb dX7_derive_60 hl (by decide) rfl (fun ls hl => ?_)
      refine lv_aload_n hx hb dX7_derive_62 rfl (lv_at hl 1 rfl) ?_
      refine va_get (D := G) (ci := 5) (v := .ref (qM 4)) (C := RX7) (T := TX7) (N := 13) hx hb hts fin_X7 hown hK.1 hP 0 rfl rfl 7 (by decide) (hts _ wi_678) (fun _ h9 => h9) rfl dX7_derive_63 ?_
      refine lv_sipush (v := (1150 : Int32)) hx hb dX7_derive_66 (by decide) ?_
      refine lv_iload_n hx hb dX7_derive_69 rfl (lv_at hl 3 rfl) ?_
      refine lv_imul hx hb dX7_derive_70 ?_
      refine lv_iload_n hx hb dX7_derive_71 rfl (lv_at hl 4 rfl) ?_
      refine lv_iadd hx hb dX7_derive_72 ?_
      obtain ⟨hi_5, hf⟩ := oif hf
      refine va_lald hx hb hK.1 hP 4 1 rfl rfl (inb_in hi_5) dX7_derive_73 ?_
      obtain ⟨y_6, hq, hf⟩ := obd hf
      have hy_6 : (gM_down zM (((1150 : Int32) * x2) + x3).toNatClampNeg) = y_6 := Option.some.inj hq
      rw [hy_6]
      refine lv_lstore (lv' := [(6, .long y_6), (4, .long y_4), (0, .ref (qM 0)), (1, .int x1), (2, .int x2), (3, .int x3)]) hx hb dX7_derive_74 hl (by decide) rfl (fun ls hl => ?_)
      refine lv_iload_n hx hb dX7_derive_76 rfl (lv_at hl 5 rfl) ?_
      refine lv_bipush (v := (25 : Int32)) hx hb dX7_derive_77 (by decide) ?_
      refine lv_irem hx hb dX7_derive_79 (by decide) ?_
      refine lv_bipush (v := (12 : Int32)) hx hb dX7_derive_80 (by decide) ?_
      refine lv_isub hx hb dX7_derive_82 ?_
      obtain ⟨y_7, hq, hf⟩ := obd hf
      have hy_7 : ((x3 - x3 / (25 : Int32) * (25 : Int32)) - (12 : Int32)) = y_7 := Option.some.inj hq
      rw [hy_7]
      refine lv_istore (lv' := [(8, .int y_7), (6, .long y_6), (4, .long y_4), (0, .ref (qM 0)), (1, .int x1), (2, .int x2), (3, .int x3)]) hx hb dX7_derive_83 hl (by decide) rfl (fun ls hl => ?_)
      refine lv_iload_n hx hb dX7_derive_85 rfl (lv_at hl 6 rfl) ?_
      refine lv_bipush (v := (25 : Int32)) hx hb dX7_derive_86 (by decide) ?_
      refine lv_idiv hx hb dX7_derive_88 (by decide) ?_
      obtain ⟨r_8, hr_8, hf⟩ := obd hf
      refine cRiS (As := [.int (x3 / (25 : Int32))]) (rest := []) ⟨hx, hb, hml, hown, hts⟩ (m_X7_kindOf l G cA (x3 / (25 : Int32)) r_8 hr_8) (cw_X7_kindOf hts wi_833 ⟨Nat.le_of_ble_eq_true rfl, Nat.le_of_ble_eq_true rfl⟩) hK va_Pnil rfl hl.1 rfl (Nat.le_of_ble_eq_true rfl) dX7_derive_89 ⟨Nat.zero_le _, Nat.zero_le _⟩ ?_
      refine lv_istore (lv' := [(9, .int r_8), (8, .int y_7), (6, .long y_6), (4, .long y_4), (0, .ref (qM 0)), (1, .int x1), (2, .int x2), (3, .int x3)]) hx hb dX7_derive_92 hl (by decide) rfl (fun ls hl => ?_)
      refine lv_iload_n hx hb dX7_derive_94 rfl (lv_at hl 7 rfl) ?_
      refine lv_bipush (v := (25 : Int32)) hx hb dX7_derive_95 (by decide) ?_
      refine lv_idiv hx hb dX7_derive_97 (by decide) ?_
      obtain ⟨r_9, hr_9, hf⟩ := obd hf
      refine cRiS (As := [.int (x3 / (25 : Int32))]) (rest := []) ⟨hx, hb, hml, hown, hts⟩ (m_X7_countOf l G cA (x3 / (25 : Int32)) r_9 hr_9) (cw_X7_countOf hts wi_836 ⟨Nat.le_of_ble_eq_true rfl, Nat.le_of_ble_eq_true rfl⟩) hK va_Pnil rfl hl.1 rfl (Nat.le_of_ble_eq_true rfl) dX7_derive_98 ⟨Nat.zero_le _, Nat.zero_le _⟩ ?_
      refine lv_istore (lv' := [(10, .int r_9), (9, .int r_8), (8, .int y_7), (6, .long y_6), (4, .long y_4), (0, .ref (qM 0)), (1, .int x1), (2, .int x2), (3, .int x3)]) hx hb dX7_derive_101 hl (by decide) rfl (fun ls hl => ?_)
      refine lv_lload hx hb dX7_derive_103 (lv_at hl 4 rfl) ?_
      refine lv_lconst (v := (0 : Int64)) hx hb dX7_derive_105 (by decide) ?_
      refine W.lcmp hx hb dX7_derive_106 ?_
      refine lv_if_ne (tgt := 113) hx hb dX7_derive_107 (by decide) (fun c_10 => ?_) (fun c_10 => ?_)
      · rw [if_pos (fun h => c_10 ((lg_cmp_eq _ _).mpr h))] at hf
        refine lv_aload_n hx hb dX7_derive_113 rfl (lv_at hl 5 rfl) ?_
        refine lv_bipush (v := (8 : Int32)) hx hb dX7_derive_114 (by decide) ?_
        refine lv_iload hx hb dX7_derive_116 (lv_at hl 1 rfl) ?_
        refine lv_iload hx hb dX7_derive_118 (lv_at hl 0 rfl) ?_
        refine lv_iload hx hb dX7_derive_120 (lv_at hl 2 rfl) ?_
        refine lv_iconst (v := 1) hx hb dX7_derive_122 (by decide) ?_
        refine lv_isub hx hb dX7_derive_123 ?_
        refine lv_lload hx hb dX7_derive_124 (lv_at hl 4 rfl) ?_
        refine lv_iload hx hb dX7_derive_126 (lv_at hl 2 rfl) ?_
        refine lv_i2l (v := y_7.toInt64) hx hb dX7_derive_128 rfl ?_
        refine lv_lmul hx hb dX7_derive_129 ?_
        refine lv_lload hx hb dX7_derive_130 (lv_at hl 3 rfl) ?_
        obtain ⟨r_11, hr_11, hf⟩ := obd hf
        refine cWvV (As := [.int (8 : Int32), .int r_8, .int r_9, .int (y_7 - (1 : Int32)), .long (y_4 * y_7.toInt64), .long y_6]) (rest := []) (W1 := ((wMd cA qM r_11))) ⟨hx, hb, hml, hown, hts⟩ (m_X7_addTerm l G cA qM zM (8 : Int32) r_8 r_9 (y_7 - (1 : Int32)) (y_4 * y_7.toInt64) y_6 r_11 hr_11) (cw_X7_addTerm hts wi_772 ⟨Nat.le_of_ble_eq_true rfl, Nat.le_of_ble_eq_true rfl⟩) hK hP hD hS [0, 1, 2, 3, 4] [5, 6, 7, 8, 9] rfl rfl rfl (by decide) rfl va_Pnil dj_nil (va_recv hK.1 hP (ci := 5) (q0 := 0) rfl rfl) rfl hl.1 rfl (Nat.le_of_ble_eq_true rfl) dX7_derive_132 ⟨Nat.zero_le _, Nat.zero_le _⟩ (fun H locs hP hD hS => ?_)
        refine lv_iload hx hb dX7_derive_135 (lv_at hl 1 rfl) ?_
        refine lv_iconst (v := 1) hx hb dX7_derive_137 (by decide) ?_
        refine lv_icmp_ne (tgt := 167) hx hb dX7_derive_138 (by decide) (fun c_12 => ?_) (fun c_12 => ?_)
        · rw [if_pos (c_12)] at hf
          refine lv_iload hx hb dX7_derive_167 (lv_at hl 1 rfl) ?_
          refine lv_iconst (v := 2) hx hb dX7_derive_169 (by decide) ?_
          refine lv_icmp_ne (tgt := 195) hx hb dX7_derive_170 (by decide) (fun c_13 => ?_) (fun c_13 => ?_)
          · rw [if_pos (c_13)] at hf
            refine lv_iload hx hb dX7_derive_195 (lv_at hl 1 rfl) ?_
            refine lv_iconst (v := 2) hx hb dX7_derive_197 (by decide) ?_
            refine lv_icmp_le (tgt := 246) hx hb dX7_derive_198 (by decide) (fun c_14 => ?_) (fun c_14 => ?_)
            · rw [if_pos (c_14)] at hf
              exact b_X7_derive_246 qM   C0 (fun zM_ x1_ x2_ x3_ => f_X7_derive_41  fu zM_ x1_ x2_ x3_) ih r_11 x1 x2 x3 H locs ls hP hD hS (lv_sub hl [5, 6, 7, 8] rfl) hf
            · rw [if_neg (c_14)] at hf
              refine lv_aload_n hx hb dX7_derive_201 rfl (lv_at hl 5 rfl) ?_
              refine lv_bipush (v := (8 : Int32)) hx hb dX7_derive_202 (by decide) ?_
              refine lv_iload hx hb dX7_derive_204 (lv_at hl 1 rfl) ?_
              refine lv_iconst (v := 3) hx hb dX7_derive_206 (by decide) ?_
              refine lv_icmp_ne (tgt := 214) hx hb dX7_derive_207 (by decide) (fun c_15 => ?_) (fun c_15 => ?_)
              · rw [if_pos (c_15)] at hf
                refine lv_iconst (v := 3) hx hb dX7_derive_214 (by decide) ?_
                exact b_X7_derive_215 qM   C0 (fun zM_ x1_ x2_ x3_ => f_X7_derive_41  fu zM_ x1_ x2_ x3_) ih r_11 x1 x2 x3 y_4 y_6 y_7 r_8 r_9 (8 : Int32) (3 : Int32) H locs ls hP hD hS (lv_sub hl [5, 6, 7, 8, 4, 3, 2, 1, 0] rfl) hf
              · rw [if_neg (not_not_intro c_15)] at hf
                refine lv_iconst (v := 4) hx hb dX7_derive_210 (by decide) ?_
                refine lv_goto (tgt := 215) hx hb dX7_derive_211 (by decide) ?_
                exact b_X7_derive_215 qM   C0 (fun zM_ x1_ x2_ x3_ => f_X7_derive_41  fu zM_ x1_ x2_ x3_) ih r_11 x1 x2 x3 y_4 y_6 y_7 r_8 r_9 (8 : Int32) (4 : Int32) H locs ls hP hD hS (lv_sub hl [5, 6, 7, 8, 4, 3, 2, 1, 0] rfl) hf
          · rw [if_neg (not_not_intro c_13)] at hf
            refine lv_aload_n hx hb dX7_derive_173 rfl (lv_at hl 5 rfl) ?_
            refine lv_bipush (v := (8 : Int32)) hx hb dX7_derive_174 (by decide) ?_
            refine lv_iconst (v := 2) hx hb dX7_derive_176 (by decide) ?_
            refine lv_iload hx hb dX7_derive_177 (lv_at hl 0 rfl) ?_
            refine lv_iload hx hb dX7_derive_179 (lv_at hl 2 rfl) ?_
            refine lv_lload hx hb dX7_derive_181 (lv_at hl 4 rfl) ?_
            refine lv_iload hx hb dX7_derive_183 (lv_at hl 0 rfl) ?_
            refine lv_i2l (v := r_9.toInt64) hx hb dX7_derive_185 rfl ?_
            refine lv_lmul hx hb dX7_derive_186 ?_
            refine lv_lload hx hb dX7_derive_187 (lv_at hl 3 rfl) ?_
            obtain ⟨r_16, hr_16, hf⟩ := obd hf
            refine cWvV (As := [.int (8 : Int32), .int (2 : Int32), .int r_9, .int y_7, .long (y_4 * r_9.toInt64), .long y_6]) (rest := []) (W1 := ((wMd cA qM r_16))) ⟨hx, hb, hml, hown, hts⟩ (m_X7_addTerm l G cA qM r_11 (8 : Int32) (2 : Int32) r_9 y_7 (y_4 * r_9.toInt64) y_6 r_16 hr_16) (cw_X7_addTerm hts wi_772 ⟨Nat.le_of_ble_eq_true rfl, Nat.le_of_ble_eq_true rfl⟩) hK hP hD hS [0, 1, 2, 3, 4] [5, 6, 7, 8, 9] rfl rfl rfl (by decide) rfl va_Pnil dj_nil (va_recv hK.1 hP (ci := 5) (q0 := 0) rfl rfl) rfl hl.1 rfl (Nat.le_of_ble_eq_true rfl) dX7_derive_189 ⟨Nat.zero_le _, Nat.zero_le _⟩ (fun H locs hP hD hS => ?_)
            refine lv_goto (tgt := 246) hx hb dX7_derive_192 (by decide) ?_
            exact b_X7_derive_246 qM   C0 (fun zM_ x1_ x2_ x3_ => f_X7_derive_41  fu zM_ x1_ x2_ x3_) ih r_16 x1 x2 x3 H locs ls hP hD hS (lv_sub hl [5, 6, 7, 8] rfl) hf
        · rw [if_neg (not_not_intro c_12)] at hf
          refine lv_aload_n hx hb dX7_derive_141 rfl (lv_at hl 5 rfl) ?_
          refine lv_bipush (v := (8 : Int32)) hx hb dX7_derive_142 (by decide) ?_
          refine lv_iconst (v := 1) hx hb dX7_derive_144 (by decide) ?_
          refine lv_iload hx hb dX7_derive_145 (lv_at hl 0 rfl) ?_
          refine lv_iconst (v := 1) hx hb dX7_derive_147 (by decide) ?_
          refine lv_isub hx hb dX7_derive_148 ?_
          refine lv_iload hx hb dX7_derive_149 (lv_at hl 2 rfl) ?_
          refine lv_iconst (v := 1) hx hb dX7_derive_151 (by decide) ?_
          refine lv_isub hx hb dX7_derive_152 ?_
          refine lv_lload hx hb dX7_derive_153 (lv_at hl 4 rfl) ?_
          refine lv_iload hx hb dX7_derive_155 (lv_at hl 0 rfl) ?_
          refine lv_i2l (v := r_9.toInt64) hx hb dX7_derive_157 rfl ?_
          refine lv_lmul hx hb dX7_derive_158 ?_
          refine lv_lload hx hb dX7_derive_159 (lv_at hl 3 rfl) ?_
          obtain ⟨r_17, hr_17, hf⟩ := obd hf
          refine cWvV (As := [.int (8 : Int32), .int (1 : Int32), .int (r_9 - (1 : Int32)), .int (y_7 - (1 : Int32)), .long (y_4 * r_9.toInt64), .long y_6]) (rest := []) (W1 := ((wMd cA qM r_17))) ⟨hx, hb, hml, hown, hts⟩ (m_X7_addTerm l G cA qM r_11 (8 : Int32) (1 : Int32) (r_9 - (1 : Int32)) (y_7 - (1 : Int32)) (y_4 * r_9.toInt64) y_6 r_17 hr_17) (cw_X7_addTerm hts wi_772 ⟨Nat.le_of_ble_eq_true rfl, Nat.le_of_ble_eq_true rfl⟩) hK hP hD hS [0, 1, 2, 3, 4] [5, 6, 7, 8, 9] rfl rfl rfl (by decide) rfl va_Pnil dj_nil (va_recv hK.1 hP (ci := 5) (q0 := 0) rfl rfl) rfl hl.1 rfl (Nat.le_of_ble_eq_true rfl) dX7_derive_161 ⟨Nat.zero_le _, Nat.zero_le _⟩ (fun H locs hP hD hS => ?_)
          refine lv_goto (tgt := 246) hx hb dX7_derive_164 (by decide) ?_
          exact b_X7_derive_246 qM   C0 (fun zM_ x1_ x2_ x3_ => f_X7_derive_41  fu zM_ x1_ x2_ x3_) ih r_17 x1 x2 x3 H locs ls hP hD hS (lv_sub hl [5, 6, 7, 8] rfl) hf
      · rw [if_neg (fun h => h ((lg_cmp_eq _ _).mp c_10))] at hf
        refine lv_goto (tgt := 246) hx hb dX7_derive_110 (by decide) ?_
        exact b_X7_derive_246 qM   C0 (fun zM_ x1_ x2_ x3_ => f_X7_derive_41  fu zM_ x1_ x2_ x3_) ih zM x1 x2 x3 H locs ls hP hD hS (lv_sub hl [5, 6, 7, 8] rfl) hf
def f_X7_derive_20 (zM : MdS) (x1 : Int32) (x2 : Int32) (v1 : Int32) : Option (Int32 × MdS) := (f_X7_refused zM v1).bind fun r_1 => if r_1.1 = 0 then (f_X7_empty (uM_isFull r_1.2 (0 : Int32)) (8 : Int32)).bind fun r_3 => f_X7_derive_41 fuel r_3 x1 x2 (0 : Int32) else some ((0 : Int32), r_1.2)
set_option maxHeartbeats 4000000 in
set_option maxRecDepth 100000 in
theorem b_X7_derive_20 {p : Program} {l : Launch} {e : Env} {s : State} {m : MethodId} {args : Array Value} {below : List Frame} {meth : Method} {c : Code} {G : va_G} {cA : Nat → ClassId} {W9 : va_W} (qM : Nat → Nat) (C0 : Amb p s m args meth c cX7_derive RX7 11 (some .int) G cA (adr W9) []) {res : Int32 × MdS} : ∀ (zM : MdS) (x1 : Int32) (x2 : Int32) (v1 : Int32) (H : Heap) (locs : List Loc) (ls : Array Slot), va_P G vwCl ((wMd cA qM zM)) H → va_D (adr W9) ((wMd cA qM zM)) → va_S (adr W9) s.heap H locs → lv_has ls 11 [(0, .ref (qM 0)), (1, .int x1), (2, .int x2)] → f_X7_derive_20 zM x1 x2 v1 = some res → W p l e rm_X7_derive s m args below meth c H locs 0 0 (MQ below (qWi G W9 ((wMd cA qM res.2)) res.1) args s 0 0 (adr W9)) (F0 m 20 ls [.int v1, .ref (qM 0)]) := by
  obtain ⟨hx, hb, hr, hml, hown, hts, hlocks, hK, hR, hRA⟩ := id C0
  intro zM x1 x2 v1 H locs ls hP hD hS hl hf
  unfold f_X7_derive_20 at hf
  obtain ⟨r_1, hr_1, hf⟩ := obd hf
  refine cWiV (As := [.int v1]) (rest := []) (W1 := ((wMd cA qM r_1.2))) ⟨hx, hb, hml, hown, hts⟩ (m_X7_refused l G cA qM zM v1 r_1 hr_1) (cw_X7_refused hts wi_723 ⟨Nat.le_of_ble_eq_true rfl, Nat.le_of_ble_eq_true rfl⟩) hK hP hD hS [0, 1, 2, 3, 4] [5, 6, 7, 8, 9] rfl rfl rfl (by decide) rfl va_Pnil dj_nil (va_recv hK.1 hP (ci := 5) (q0 := 0) rfl rfl) rfl hl.1 rfl (Nat.le_of_ble_eq_true rfl) dX7_derive_20 ⟨Nat.zero_le _, Nat.zero_le _⟩ (fun H locs hP hD hS => ?_)
  refine lv_if_eq (tgt := 28) hx hb dX7_derive_23 (by decide) (fun c_2 => ?_) (fun c_2 => ?_)
  · rw [if_pos (c_2)] at hf
    refine lv_aload_n hx hb dX7_derive_28 rfl (lv_at hl 0 rfl) ?_
    refine lv_iconst (v := 0) hx hb dX7_derive_29 (by decide) ?_
    refine va_put (D := G) (ci := 5) (v := .int (0 : Int32)) (ty := .boolean) (C := RX7) (T := TX7) (N := 13) hx hb hts fin_X7 tyX7 tyX7_ok nmX7 hown hK.1 hP hD hS 0 rfl rfl 8 (by decide) (hts _ wi_679) (fun _ h9 => h9) rfl (by decide +kernel) (by decide) (by decide) (Nat.le_of_ble_eq_true rfl) dX7_derive_30 (fun H locs hP hD hS => ?_)
    have hP : va_P G vwCl ((wMd cA qM (uM_isFull r_1.2 (0 : Int32)))) H := hP
    have hD : va_D (adr W9) ((wMd cA qM (uM_isFull r_1.2 (0 : Int32)))) := hD
    refine lv_aload_n hx hb dX7_derive_33 rfl (lv_at hl 0 rfl) ?_
    refine lv_bipush (v := (8 : Int32)) hx hb dX7_derive_34 (by decide) ?_
    obtain ⟨r_3, hr_3, hf⟩ := obd hf
    refine cWvV (As := [.int (8 : Int32)]) (rest := []) (W1 := ((wMd cA qM r_3))) ⟨hx, hb, hml, hown, hts⟩ (m_X7_empty l G cA qM (uM_isFull r_1.2 (0 : Int32)) (8 : Int32) r_3 hr_3) (cw_X7_empty hts wi_738 ⟨Nat.le_of_ble_eq_true rfl, Nat.le_of_ble_eq_true rfl⟩) hK hP hD hS [0, 1, 2, 3, 4] [5, 6, 7, 8, 9] rfl rfl rfl (by decide) rfl va_Pnil dj_nil (va_recv hK.1 hP (ci := 5) (q0 := 0) rfl rfl) rfl hl.1 rfl (Nat.le_of_ble_eq_true rfl) dX7_derive_36 ⟨Nat.zero_le _, Nat.zero_le _⟩ (fun H locs hP hD hS => ?_)
    refine lv_iconst (v := 0) hx hb dX7_derive_39 (by decide) ?_
    refine lv_istore_n (lv' := [(3, .int (0 : Int32)), (0, .ref (qM 0)), (1, .int x1), (2, .int x2)]) hx hb dX7_derive_40 rfl hl (by decide) rfl (fun ls hl => ?_)
    exact b_X7_derive_41 qM   C0  fuel r_3 x1 x2 (0 : Int32) H locs ls hP hD hS (lv_sub hl [1, 2, 3, 0] rfl) hf
  · rw [if_neg (c_2)] at hf
    refine lv_iconst (v := 0) hx hb dX7_derive_26 (by decide) ?_
    cases hf
    exact W.iret hx hb hr (fun t ht hW => ⟨⟨_, (), rfl, rfl, toT ht hP⟩, hS.F ht⟩) hS.2.2 dX7_derive_27 hlocks
def f_X7_derive_19 (zM : MdS) (x1 : Int32) (x2 : Int32) : Option (Int32 × MdS) := f_X7_derive_20  zM x1 x2 (1 : Int32)
set_option maxHeartbeats 4000000 in
set_option maxRecDepth 100000 in
theorem b_X7_derive_19 {p : Program} {l : Launch} {e : Env} {s : State} {m : MethodId} {args : Array Value} {below : List Frame} {meth : Method} {c : Code} {G : va_G} {cA : Nat → ClassId} {W9 : va_W} (qM : Nat → Nat) (C0 : Amb p s m args meth c cX7_derive RX7 11 (some .int) G cA (adr W9) []) {res : Int32 × MdS} : ∀ (zM : MdS) (x1 : Int32) (x2 : Int32) (H : Heap) (locs : List Loc) (ls : Array Slot), va_P G vwCl ((wMd cA qM zM)) H → va_D (adr W9) ((wMd cA qM zM)) → va_S (adr W9) s.heap H locs → lv_has ls 11 [(0, .ref (qM 0)), (1, .int x1), (2, .int x2)] → f_X7_derive_19 zM x1 x2 = some res → W p l e rm_X7_derive s m args below meth c H locs 0 0 (MQ below (qWi G W9 ((wMd cA qM res.2)) res.1) args s 0 0 (adr W9)) (F0 m 19 ls [.ref (qM 0)]) := by
  obtain ⟨hx, hb, hr, hml, hown, hts, hlocks, hK, hR, hRA⟩ := id C0
  intro zM x1 x2 H locs ls hP hD hS hl hf
  unfold f_X7_derive_19 at hf
  refine lv_iconst (v := 1) hx hb dX7_derive_19 (by decide) ?_
  exact b_X7_derive_20 qM   C0  zM x1 x2 (1 : Int32) H locs ls hP hD hS (lv_sub hl [0, 1, 2] rfl) hf
def f_X7_derive (zM : MdS) (a1 : Int32) (a2 : Int32) : Option (Int32 × MdS) := (f_X7_isSlot a1).bind fun r_1 => if r_1 = 0 then f_X7_derive_19  zM a1 a2 else (f_X7_isSlot a2).bind fun r_3 => if r_3 = 0 then f_X7_derive_19  zM a1 a2 else f_X7_derive_20  zM a1 a2 (0 : Int32)
set_option maxHeartbeats 4000000 in
set_option maxRecDepth 100000 in
theorem b_X7_derive_0 {p : Program} {l : Launch} {e : Env} {s : State} {m : MethodId} {args : Array Value} {below : List Frame} {meth : Method} {c : Code} {G : va_G} {cA : Nat → ClassId} {W9 : va_W} (qM : Nat → Nat) (C0 : Amb p s m args meth c cX7_derive RX7 11 (some .int) G cA (adr W9) []) {res : Int32 × MdS} : ∀ (zM : MdS) (a1 : Int32) (a2 : Int32) (H : Heap) (locs : List Loc) (ls : Array Slot), va_P G vwCl ((wMd cA qM zM)) H → va_D (adr W9) ((wMd cA qM zM)) → va_S (adr W9) s.heap H locs → lv_has ls 11 [(0, .ref (qM 0)), (1, .int a1), (2, .int a2)] → f_X7_derive zM a1 a2 = some res → W p l e rm_X7_derive s m args below meth c H locs 0 0 (MQ below (qWi G W9 ((wMd cA qM res.2)) res.1) args s 0 0 (adr W9)) (F0 m 0 ls []) := by
  obtain ⟨hx, hb, hr, hml, hown, hts, hlocks, hK, hR, hRA⟩ := id C0
  intro zM a1 a2 H locs ls hP hD hS hl hf
  unfold f_X7_derive at hf
  refine lv_aload_n hx hb dX7_derive_0 rfl (lv_at hl 0 rfl) ?_
  refine lv_iload_n hx hb dX7_derive_1 rfl (lv_at hl 1 rfl) ?_
  obtain ⟨r_1, hr_1, hf⟩ := obd hf
  refine cRiS (As := [.int a1]) (rest := [.ref (qM 0)]) ⟨hx, hb, hml, hown, hts⟩ (m_X7_isSlot l G cA a1 r_1 hr_1) (cw_X7_isSlot hts wi_735 ⟨Nat.le_of_ble_eq_true rfl, Nat.le_of_ble_eq_true rfl⟩) hK va_Pnil rfl hl.1 rfl (Nat.le_of_ble_eq_true rfl) dX7_derive_2 ⟨Nat.zero_le _, Nat.zero_le _⟩ ?_
  refine lv_if_eq (tgt := 19) hx hb dX7_derive_5 (by decide) (fun c_2 => ?_) (fun c_2 => ?_)
  · rw [if_pos (c_2)] at hf
    exact b_X7_derive_19 qM   C0  zM a1 a2 H locs ls hP hD hS (lv_sub hl [0, 1, 2] rfl) hf
  · rw [if_neg (c_2)] at hf
    refine lv_iload_n hx hb dX7_derive_8 rfl (lv_at hl 2 rfl) ?_
    obtain ⟨r_3, hr_3, hf⟩ := obd hf
    refine cRiS (As := [.int a2]) (rest := [.ref (qM 0)]) ⟨hx, hb, hml, hown, hts⟩ (m_X7_isSlot l G cA a2 r_3 hr_3) (cw_X7_isSlot hts wi_735 ⟨Nat.le_of_ble_eq_true rfl, Nat.le_of_ble_eq_true rfl⟩) hK va_Pnil rfl hl.1 rfl (Nat.le_of_ble_eq_true rfl) dX7_derive_9 ⟨Nat.zero_le _, Nat.zero_le _⟩ ?_
    refine lv_if_eq (tgt := 19) hx hb dX7_derive_12 (by decide) (fun c_4 => ?_) (fun c_4 => ?_)
    · rw [if_pos (c_4)] at hf
      exact b_X7_derive_19 qM   C0  zM a1 a2 H locs ls hP hD hS (lv_sub hl [0, 1, 2] rfl) hf
    · rw [if_neg (c_4)] at hf
      refine lv_iconst (v := 0) hx hb dX7_derive_15 (by decide) ?_
      refine lv_goto (tgt := 20) hx hb dX7_derive_16 (by decide) ?_
      exact b_X7_derive_20 qM   C0  zM a1 a2 (0 : Int32) H locs ls hP hD hS (lv_sub hl [0, 1, 2] rfl) hf

set_option maxRecDepth 100000 in
theorem m_X7_derive (l : Launch) (G : va_G) (cA : Nat → ClassId) (qM : Nat → Nat) (zM : MdS) (a1 : Int32) (a2 : Int32) (res : Int32 × MdS) (hf : f_X7_derive zM a1 a2 = some res) : MWi l yX7_derive (.code yX7_derive cX7_derive 11 (some .int) :: wd) rm_X7_derive G cA [.ref (qM 0), .int a1, .int a2] ((wMd cA qM zM)) [] ((wMd cA qM res.2)) res.1 := by
  refine Met.ofW (cc := cX7_derive) (maxL := 11) (ret := (some .int)) (by decide) rfl ?_
  intro p e s m args below meth c s₁ B hml hv
  obtain ⟨rfl, hK, hP, hD0, hR, hRA⟩ := hv
  have C0 : Amb p s m ([.ref (qM 0), .int a1, .int a2] : List Value).toArray meth c cX7_derive RX7 11 (some .int) G cA (adr ((wMd cA qM zM))) [] := ⟨B.exec, B.bytes, B.returns, hml, findClass_of_methodNamed B.named, fun w h => atoms_spec (ws := (.code yX7_derive cX7_derive 11 (some .int) :: wd)) B.pre w (List.mem_cons_of_mem _ h), B.notSynchronized, hK, hR, hRA⟩
  have hl := lv_entry ([.ref (qM 0), .int a1, .int a2]) (n := 11) (Nat.le_of_ble_eq_true rfl)
  rw [lg_entry_eq]
  generalize (lg_sl ([.ref (qM 0), .int a1, .int a2]) ++ List.replicate (11 - (lg_sl ([.ref (qM 0), .int a1, .int a2])).length) Slot.unset).toArray = ls at hl ⊢
  have hl : lv_has ls 11 [(0, .ref (qM 0)), (1, .int a1), (2, .int a2)] := hl
  exact b_X7_derive_0 (W9 := ((wMd cA qM zM))) qM   C0 zM a1 a2 s.heap [] ls hP (adr.self hD0) va_S.rf hl hf
theorem cw_X7_derive {R : Room} {s : State} {args : Array Value} {own : String} {index : Nat} (ht : ∀ w ∈ wd, w.before args s = true) (hlink : Cond.methodLink own index yX7_derive ∈ wd) (hR : rm_X7_derive.frames + 1 ≤ R.frames ∧ 8 + (11 + 11) + rm_X7_derive.locals ≤ R.locals) : CallW R s args own RX7 index yX7_derive cX7_derive 11 (some .int) (.code yX7_derive cX7_derive 11 (some .int) :: wd) rm_X7_derive 0 0 2 := cwV9 2 ht wi_869 wi_867 wi_868 wi_60 hlink (by decide +kernel) rfl rfl hR
def rm_X7_scale : Room := { frames := 1, cells := 0, slots := 0, locals := 29 }
def f_X7_scale_33 (zM : MdS) (x5 : Int64) (x7 : Int64) : Option (MdS) := (f_X7_gcd x5 x7).bind fun r_1 => if ¬ r_1 = 0 then if ¬ r_1 = 0 then some (uM_bottom (uM_top zM (x5 / r_1)) (x7 / r_1)) else none else none
set_option maxHeartbeats 4000000 in
set_option maxRecDepth 100000 in
theorem b_X7_scale_33 {p : Program} {l : Launch} {e : Env} {s : State} {m : MethodId} {args : Array Value} {below : List Frame} {meth : Method} {c : Code} {G : va_G} {cA : Nat → ClassId} {W9 : va_W} (qM : Nat → Nat) (C0 : Amb p s m args meth c cX7_scale RX7 11 none G cA (adr W9) []) {res : MdS} : ∀ (zM : MdS) (x5 : Int64) (x7 : Int64) (H : Heap) (locs : List Loc) (ls : Array Slot), va_P G vwCl ((wMd cA qM zM)) H → va_D (adr W9) ((wMd cA qM zM)) → va_S (adr W9) s.heap H locs → lv_has ls 11 [(0, .ref (qM 0)), (5, .long x5), (7, .long x7)] → f_X7_scale_33 zM x5 x7 = some res → W p l e rm_X7_scale s m args below meth c H locs 0 0 (MQ below (qWv G W9 ((wMd cA qM res))) args s 0 0 (adr W9)) (F0 m 33 ls []) := by
  obtain ⟨hx, hb, hr, hml, hown, hts, hlocks, hK, hR, hRA⟩ := id C0
  intro zM x5 x7 H locs ls hP hD hS hl hf
  unfold f_X7_scale_33 at hf
  refine lv_lload hx hb dX7_scale_33 (lv_at hl 1 rfl) ?_
  refine lv_lload hx hb dX7_scale_35 (lv_at hl 2 rfl) ?_
  obtain ⟨r_1, hr_1, hf⟩ := obd hf
  refine cRlS (As := [.long x5, .long x7]) (rest := []) ⟨hx, hb, hml, hown, hts⟩ (m_X7_gcd l G cA x5 x7 r_1 hr_1) (cw_X7_gcd hts wi_769 ⟨Nat.le_of_ble_eq_true rfl, Nat.le_of_ble_eq_true rfl⟩) hK va_Pnil rfl hl.1 rfl (Nat.le_of_ble_eq_true rfl) dX7_scale_37 ⟨Nat.zero_le _, Nat.zero_le _⟩ ?_
  refine lv_lstore (lv' := [(9, .long r_1), (0, .ref (qM 0)), (5, .long x5), (7, .long x7)]) hx hb dX7_scale_40 hl (by decide) rfl (fun ls hl => ?_)
  refine lv_aload_n hx hb dX7_scale_42 rfl (lv_at hl 1 rfl) ?_
  refine lv_lload hx hb dX7_scale_43 (lv_at hl 2 rfl) ?_
  refine lv_lload hx hb dX7_scale_45 (lv_at hl 0 rfl) ?_
  obtain ⟨hn_2, hf⟩ := oif hf
  refine lv_ldiv hx hb dX7_scale_47 hn_2 ?_
  refine va_put (D := G) (ci := 5) (v := .long (x5 / r_1)) (ty := .long) (C := RX7) (T := TX7) (N := 13) hx hb hts fin_X7 tyX7 tyX7_ok nmX7 hown hK.1 hP hD hS 0 rfl rfl 11 (by decide) (hts _ wi_682) (fun _ h9 => h9) rfl (by decide +kernel) rfl rfl (Nat.le_of_ble_eq_true rfl) dX7_scale_48 (fun H locs hP hD hS => ?_)
  have hP : va_P G vwCl ((wMd cA qM (uM_top zM (x5 / r_1)))) H := hP
  have hD : va_D (adr W9) ((wMd cA qM (uM_top zM (x5 / r_1)))) := hD
  refine lv_aload_n hx hb dX7_scale_51 rfl (lv_at hl 1 rfl) ?_
  refine lv_lload hx hb dX7_scale_52 (lv_at hl 3 rfl) ?_
  refine lv_lload hx hb dX7_scale_54 (lv_at hl 0 rfl) ?_
  obtain ⟨hn_3, hf⟩ := oif hf
  refine lv_ldiv hx hb dX7_scale_56 hn_3 ?_
  refine va_put (D := G) (ci := 5) (v := .long (x7 / r_1)) (ty := .long) (C := RX7) (T := TX7) (N := 13) hx hb hts fin_X7 tyX7 tyX7_ok nmX7 hown hK.1 hP hD hS 0 rfl rfl 12 (by decide) (hts _ wi_683) (fun _ h9 => h9) rfl (by decide +kernel) rfl rfl (Nat.le_of_ble_eq_true rfl) dX7_scale_57 (fun H locs hP hD hS => ?_)
  have hP : va_P G vwCl ((wMd cA qM (uM_bottom (uM_top zM (x5 / r_1)) (x7 / r_1)))) H := hP
  have hD : va_D (adr W9) ((wMd cA qM (uM_bottom (uM_top zM (x5 / r_1)) (x7 / r_1)))) := hD
  cases hf
  exact W.vret hx hb hr (fun t ht hW => ⟨⟨(), rfl, trivial, toT ht hP⟩, hS.F ht⟩) hS.2.2 dX7_scale_60 hlocks
def f_X7_scale (zM : MdS) (a1 : Int64) (a3 : Int64) : Option (MdS) := (some (((gM_top zM) * a1))).bind fun y_1 => (some (((gM_bottom zM) * a3))).bind fun y_2 => if (0 : Int64) ≤ y_2 then f_X7_scale_33  zM y_1 y_2 else (some ((-y_1))).bind fun y_4 => (some ((-y_2))).bind fun y_5 => f_X7_scale_33  zM y_4 y_5
set_option maxHeartbeats 4000000 in
set_option maxRecDepth 100000 in
theorem b_X7_scale_0 {p : Program} {l : Launch} {e : Env} {s : State} {m : MethodId} {args : Array Value} {below : List Frame} {meth : Method} {c : Code} {G : va_G} {cA : Nat → ClassId} {W9 : va_W} (qM : Nat → Nat) (C0 : Amb p s m args meth c cX7_scale RX7 11 none G cA (adr W9) []) {res : MdS} : ∀ (zM : MdS) (a1 : Int64) (a3 : Int64) (H : Heap) (locs : List Loc) (ls : Array Slot), va_P G vwCl ((wMd cA qM zM)) H → va_D (adr W9) ((wMd cA qM zM)) → va_S (adr W9) s.heap H locs → lv_has ls 11 [(0, .ref (qM 0)), (1, .long a1), (3, .long a3)] → f_X7_scale zM a1 a3 = some res → W p l e rm_X7_scale s m args below meth c H locs 0 0 (MQ below (qWv G W9 ((wMd cA qM res))) args s 0 0 (adr W9)) (F0 m 0 ls []) := by
  obtain ⟨hx, hb, hr, hml, hown, hts, hlocks, hK, hR, hRA⟩ := id C0
  intro zM a1 a3 H locs ls hP hD hS hl hf
  unfold f_X7_scale at hf
  refine lv_aload_n hx hb dX7_scale_0 rfl (lv_at hl 0 rfl) ?_
  refine va_get (D := G) (ci := 5) (v := .long (gM_top zM)) (C := RX7) (T := TX7) (N := 13) hx hb hts fin_X7 hown hK.1 hP 0 rfl rfl 11 (by decide) (hts _ wi_682) (fun _ h9 => h9) rfl dX7_scale_1 ?_
  refine lv_lload_n hx hb dX7_scale_4 rfl (lv_at hl 1 rfl) ?_
  refine lv_lmul hx hb dX7_scale_5 ?_
  obtain ⟨y_1, hq, hf⟩ := obd hf
  have hy_1 : ((gM_top zM) * a1) = y_1 := Option.some.inj hq
  rw [hy_1]
  refine lv_lstore (lv' := [(5, .long y_1), (0, .ref (qM 0)), (1, .long a1), (3, .long a3)]) hx hb dX7_scale_6 hl (by decide) rfl (fun ls hl => ?_)
  refine lv_aload_n hx hb dX7_scale_8 rfl (lv_at hl 1 rfl) ?_
  refine va_get (D := G) (ci := 5) (v := .long (gM_bottom zM)) (C := RX7) (T := TX7) (N := 13) hx hb hts fin_X7 hown hK.1 hP 0 rfl rfl 12 (by decide) (hts _ wi_683) (fun _ h9 => h9) rfl dX7_scale_9 ?_
  refine lv_lload_n hx hb dX7_scale_12 rfl (lv_at hl 3 rfl) ?_
  refine lv_lmul hx hb dX7_scale_13 ?_
  obtain ⟨y_2, hq, hf⟩ := obd hf
  have hy_2 : ((gM_bottom zM) * a3) = y_2 := Option.some.inj hq
  rw [hy_2]
  refine lv_lstore (lv' := [(7, .long y_2), (5, .long y_1), (0, .ref (qM 0)), (1, .long a1), (3, .long a3)]) hx hb dX7_scale_14 hl (by decide) rfl (fun ls hl => ?_)
  refine lv_lload hx hb dX7_scale_16 (lv_at hl 0 rfl) ?_
  refine lv_lconst (v := (0 : Int64)) hx hb dX7_scale_18 (by decide) ?_
  refine W.lcmp hx hb dX7_scale_19 ?_
  refine lv_if_ge (tgt := 33) hx hb dX7_scale_20 (by decide) (fun c_3 => ?_) (fun c_3 => ?_)
  · rw [if_pos ((lg_cmp_ge _ _).mp c_3)] at hf
    exact b_X7_scale_33 qM   C0  zM y_1 y_2 H locs ls hP hD hS (lv_sub hl [2, 1, 0] rfl) hf
  · rw [if_neg (fun h => c_3 ((lg_cmp_ge _ _).mpr h))] at hf
    refine lv_lload hx hb dX7_scale_23 (lv_at hl 1 rfl) ?_
    refine lv_lneg hx hb dX7_scale_25 ?_
    obtain ⟨y_4, hq, hf⟩ := obd hf
    have hy_4 : (-y_1) = y_4 := Option.some.inj hq
    rw [hy_4]
    refine lv_lstore (lv' := [(5, .long y_4), (7, .long y_2), (0, .ref (qM 0)), (1, .long a1), (3, .long a3)]) hx hb dX7_scale_26 hl (by decide) rfl (fun ls hl => ?_)
    refine lv_lload hx hb dX7_scale_28 (lv_at hl 1 rfl) ?_
    refine lv_lneg hx hb dX7_scale_30 ?_
    obtain ⟨y_5, hq, hf⟩ := obd hf
    have hy_5 : (-y_2) = y_5 := Option.some.inj hq
    rw [hy_5]
    refine lv_lstore (lv' := [(7, .long y_5), (5, .long y_4), (0, .ref (qM 0)), (1, .long a1), (3, .long a3)]) hx hb dX7_scale_31 hl (by decide) rfl (fun ls hl => ?_)
    exact b_X7_scale_33 qM   C0  zM y_4 y_5 H locs ls hP hD hS (lv_sub hl [2, 1, 0] rfl) hf

set_option maxRecDepth 100000 in
theorem m_X7_scale (l : Launch) (G : va_G) (cA : Nat → ClassId) (qM : Nat → Nat) (zM : MdS) (a1 : Int64) (a3 : Int64) (res : MdS) (hf : f_X7_scale zM a1 a3 = some res) : MWv l yX7_scale (.code yX7_scale cX7_scale 11 none :: wd) rm_X7_scale G cA [.ref (qM 0), .long a1, .long a3] ((wMd cA qM zM)) [] ((wMd cA qM res)) := by
  refine Met.ofW (cc := cX7_scale) (maxL := 11) (ret := none) (by decide) rfl ?_
  intro p e s m args below meth c s₁ B hml hv
  obtain ⟨rfl, hK, hP, hD0, hR, hRA⟩ := hv
  have C0 : Amb p s m ([.ref (qM 0), .long a1, .long a3] : List Value).toArray meth c cX7_scale RX7 11 none G cA (adr ((wMd cA qM zM))) [] := ⟨B.exec, B.bytes, B.returns, hml, findClass_of_methodNamed B.named, fun w h => atoms_spec (ws := (.code yX7_scale cX7_scale 11 none :: wd)) B.pre w (List.mem_cons_of_mem _ h), B.notSynchronized, hK, hR, hRA⟩
  have hl := lv_entry ([.ref (qM 0), .long a1, .long a3]) (n := 11) (Nat.le_of_ble_eq_true rfl)
  rw [lg_entry_eq]
  generalize (lg_sl ([.ref (qM 0), .long a1, .long a3]) ++ List.replicate (11 - (lg_sl ([.ref (qM 0), .long a1, .long a3])).length) Slot.unset).toArray = ls at hl ⊢
  have hl : lv_has ls 11 [(0, .ref (qM 0)), (1, .long a1), (3, .long a3)] := hl
  exact b_X7_scale_0 (W9 := ((wMd cA qM zM))) qM   C0 zM a1 a3 s.heap [] ls hP (adr.self hD0) va_S.rf hl hf
theorem cw_X7_scale {R : Room} {s : State} {args : Array Value} {own : String} {index : Nat} (ht : ∀ w ∈ wd, w.before args s = true) (hlink : Cond.methodLink own index yX7_scale ∈ wd) (hR : rm_X7_scale.frames + 1 ≤ R.frames ∧ 8 + (11 + 11) + rm_X7_scale.locals ≤ R.locals) : CallW R s args own RX7 index yX7_scale cX7_scale 11 none (.code yX7_scale cX7_scale 11 none :: wd) rm_X7_scale 0 0 2 := cwV9 2 ht wi_885 wi_884 wi_52 wi_60 hlink (by decide +kernel) rfl rfl hR
def rm_X7_lay : Room := { frames := 2, cells := 0, slots := 0, locals := 68 }
def f_X7_lay (zM : MdS) (a1 : Int32) (a2 : Int32) (a3 : Int32) (a4 : Int64) (a6 : Int64) : Option (MdS) := (some ((gM_top zM))).bind fun y_1 => (some ((gM_bottom zM))).bind fun y_2 => (f_X7_scale zM a4 a6).bind fun r_3 => (f_X7_addTerm r_3 (8 : Int32) a1 a2 a3 (gM_top r_3) (gM_bottom r_3)).bind fun r_4 => some (uM_bottom (uM_top r_4 y_1) y_2)
set_option maxHeartbeats 4000000 in
set_option maxRecDepth 100000 in
theorem b_X7_lay_0 {p : Program} {l : Launch} {e : Env} {s : State} {m : MethodId} {args : Array Value} {below : List Frame} {meth : Method} {c : Code} {G : va_G} {cA : Nat → ClassId} {W9 : va_W} (qM : Nat → Nat) (C0 : Amb p s m args meth c cX7_lay RX7 12 none G cA (adr W9) []) {res : MdS} : ∀ (zM : MdS) (a1 : Int32) (a2 : Int32) (a3 : Int32) (a4 : Int64) (a6 : Int64) (H : Heap) (locs : List Loc) (ls : Array Slot), va_P G vwCl ((wMd cA qM zM)) H → va_D (adr W9) ((wMd cA qM zM)) → va_S (adr W9) s.heap H locs → lv_has ls 12 [(0, .ref (qM 0)), (1, .int a1), (2, .int a2), (3, .int a3), (4, .long a4), (6, .long a6)] → f_X7_lay zM a1 a2 a3 a4 a6 = some res → W p l e rm_X7_lay s m args below meth c H locs 0 0 (MQ below (qWv G W9 ((wMd cA qM res))) args s 0 0 (adr W9)) (F0 m 0 ls []) := by
  obtain ⟨hx, hb, hr, hml, hown, hts, hlocks, hK, hR, hRA⟩ := id C0
  intro zM a1 a2 a3 a4 a6 H locs ls hP hD hS hl hf
  unfold f_X7_lay at hf
  refine lv_aload_n hx hb dX7_lay_0 rfl (lv_at hl 0 rfl) ?_
  refine va_get (D := G) (ci := 5) (v := .long (gM_top zM)) (C := RX7) (T := TX7) (N := 13) hx hb hts fin_X7 hown hK.1 hP 0 rfl rfl 11 (by decide) (hts _ wi_682) (fun _ h9 => h9) rfl dX7_lay_1 ?_
  obtain ⟨y_1, hq, hf⟩ := obd hf
  have hy_1 : (gM_top zM) = y_1 := Option.some.inj hq
  rw [hy_1]
  refine lv_lstore (lv' := [(8, .long y_1), (0, .ref (qM 0)), (1, .int a1), (2, .int a2), (3, .int a3), (4, .long a4), (6, .long a6)]) hx hb dX7_lay_4 hl (by decide) rfl (fun ls hl => ?_)
  refine lv_aload_n hx hb dX7_lay_6 rfl (lv_at hl 1 rfl) ?_
  refine va_get (D := G) (ci := 5) (v := .long (gM_bottom zM)) (C := RX7) (T := TX7) (N := 13) hx hb hts fin_X7 hown hK.1 hP 0 rfl rfl 12 (by decide) (hts _ wi_683) (fun _ h9 => h9) rfl dX7_lay_7 ?_
  obtain ⟨y_2, hq, hf⟩ := obd hf
  have hy_2 : (gM_bottom zM) = y_2 := Option.some.inj hq
  rw [hy_2]
  refine lv_lstore (lv' := [(10, .long y_2), (8, .long y_1), (0, .ref (qM 0)), (1, .int a1), (2, .int a2), (3, .int a3), (4, .long a4), (6, .long a6)]) hx hb dX7_lay_10 hl (by decide) rfl (fun ls hl => ?_)
  refine lv_aload_n hx hb dX7_lay_12 rfl (lv_at hl 2 rfl) ?_
  refine lv_lload hx hb dX7_lay_13 (lv_at hl 6 rfl) ?_
  refine lv_lload hx hb dX7_lay_15 (lv_at hl 7 rfl) ?_
  obtain ⟨r_3, hr_3, hf⟩ := obd hf
  refine cWvV (As := [.long a4, .long a6]) (rest := []) (W1 := ((wMd cA qM r_3))) ⟨hx, hb, hml, hown, hts⟩ (m_X7_scale l G cA qM zM a4 a6 r_3 hr_3) (cw_X7_scale hts wi_882 ⟨Nat.le_of_ble_eq_true rfl, Nat.le_of_ble_eq_true rfl⟩) hK hP hD hS [0, 1, 2, 3, 4] [5, 6, 7, 8, 9] rfl rfl rfl (by decide) rfl va_Pnil dj_nil (va_recv hK.1 hP (ci := 5) (q0 := 0) rfl rfl) rfl hl.1 rfl (Nat.le_of_ble_eq_true rfl) dX7_lay_17 ⟨Nat.zero_le _, Nat.zero_le _⟩ (fun H locs hP hD hS => ?_)
  refine lv_aload_n hx hb dX7_lay_20 rfl (lv_at hl 2 rfl) ?_
  refine lv_bipush (v := (8 : Int32)) hx hb dX7_lay_21 (by decide) ?_
  refine lv_iload_n hx hb dX7_lay_23 rfl (lv_at hl 3 rfl) ?_
  refine lv_iload_n hx hb dX7_lay_24 rfl (lv_at hl 4 rfl) ?_
  refine lv_iload_n hx hb dX7_lay_25 rfl (lv_at hl 5 rfl) ?_
  refine lv_aload_n hx hb dX7_lay_26 rfl (lv_at hl 2 rfl) ?_
  refine va_get (D := G) (ci := 5) (v := .long (gM_top r_3)) (C := RX7) (T := TX7) (N := 13) hx hb hts fin_X7 hown hK.1 hP 0 rfl rfl 11 (by decide) (hts _ wi_682) (fun _ h9 => h9) rfl dX7_lay_27 ?_
  refine lv_aload_n hx hb dX7_lay_30 rfl (lv_at hl 2 rfl) ?_
  refine va_get (D := G) (ci := 5) (v := .long (gM_bottom r_3)) (C := RX7) (T := TX7) (N := 13) hx hb hts fin_X7 hown hK.1 hP 0 rfl rfl 12 (by decide) (hts _ wi_683) (fun _ h9 => h9) rfl dX7_lay_31 ?_
  obtain ⟨r_4, hr_4, hf⟩ := obd hf
  refine cWvV (As := [.int (8 : Int32), .int a1, .int a2, .int a3, .long (gM_top r_3), .long (gM_bottom r_3)]) (rest := []) (W1 := ((wMd cA qM r_4))) ⟨hx, hb, hml, hown, hts⟩ (m_X7_addTerm l G cA qM r_3 (8 : Int32) a1 a2 a3 (gM_top r_3) (gM_bottom r_3) r_4 hr_4) (cw_X7_addTerm hts wi_772 ⟨Nat.le_of_ble_eq_true rfl, Nat.le_of_ble_eq_true rfl⟩) hK hP hD hS [0, 1, 2, 3, 4] [5, 6, 7, 8, 9] rfl rfl rfl (by decide) rfl va_Pnil dj_nil (va_recv hK.1 hP (ci := 5) (q0 := 0) rfl rfl) rfl hl.1 rfl (Nat.le_of_ble_eq_true rfl) dX7_lay_34 ⟨Nat.zero_le _, Nat.zero_le _⟩ (fun H locs hP hD hS => ?_)
  refine lv_aload_n hx hb dX7_lay_37 rfl (lv_at hl 2 rfl) ?_
  refine lv_lload hx hb dX7_lay_38 (lv_at hl 1 rfl) ?_
  refine va_put (D := G) (ci := 5) (v := .long y_1) (ty := .long) (C := RX7) (T := TX7) (N := 13) hx hb hts fin_X7 tyX7 tyX7_ok nmX7 hown hK.1 hP hD hS 0 rfl rfl 11 (by decide) (hts _ wi_682) (fun _ h9 => h9) rfl (by decide +kernel) rfl rfl (Nat.le_of_ble_eq_true rfl) dX7_lay_40 (fun H locs hP hD hS => ?_)
  have hP : va_P G vwCl ((wMd cA qM (uM_top r_4 y_1))) H := hP
  have hD : va_D (adr W9) ((wMd cA qM (uM_top r_4 y_1))) := hD
  refine lv_aload_n hx hb dX7_lay_43 rfl (lv_at hl 2 rfl) ?_
  refine lv_lload hx hb dX7_lay_44 (lv_at hl 0 rfl) ?_
  refine va_put (D := G) (ci := 5) (v := .long y_2) (ty := .long) (C := RX7) (T := TX7) (N := 13) hx hb hts fin_X7 tyX7 tyX7_ok nmX7 hown hK.1 hP hD hS 0 rfl rfl 12 (by decide) (hts _ wi_683) (fun _ h9 => h9) rfl (by decide +kernel) rfl rfl (Nat.le_of_ble_eq_true rfl) dX7_lay_46 (fun H locs hP hD hS => ?_)
  have hP : va_P G vwCl ((wMd cA qM (uM_bottom (uM_top r_4 y_1) y_2))) H := hP
  have hD : va_D (adr W9) ((wMd cA qM (uM_bottom (uM_top r_4 y_1) y_2))) := hD
  cases hf
  exact W.vret hx hb hr (fun t ht hW => ⟨⟨(), rfl, trivial, toT ht hP⟩, hS.F ht⟩) hS.2.2 dX7_lay_49 hlocks

set_option maxRecDepth 100000 in
theorem m_X7_lay (l : Launch) (G : va_G) (cA : Nat → ClassId) (qM : Nat → Nat) (zM : MdS) (a1 : Int32) (a2 : Int32) (a3 : Int32) (a4 : Int64) (a6 : Int64) (res : MdS) (hf : f_X7_lay zM a1 a2 a3 a4 a6 = some res) : MWv l yX7_lay (.code yX7_lay cX7_lay 12 none :: wd) rm_X7_lay G cA [.ref (qM 0), .int a1, .int a2, .int a3, .long a4, .long a6] ((wMd cA qM zM)) [] ((wMd cA qM res)) := by
  refine Met.ofW (cc := cX7_lay) (maxL := 12) (ret := none) (by decide) rfl ?_
  intro p e s m args below meth c s₁ B hml hv
  obtain ⟨rfl, hK, hP, hD0, hR, hRA⟩ := hv
  have C0 : Amb p s m ([.ref (qM 0), .int a1, .int a2, .int a3, .long a4, .long a6] : List Value).toArray meth c cX7_lay RX7 12 none G cA (adr ((wMd cA qM zM))) [] := ⟨B.exec, B.bytes, B.returns, hml, findClass_of_methodNamed B.named, fun w h => atoms_spec (ws := (.code yX7_lay cX7_lay 12 none :: wd)) B.pre w (List.mem_cons_of_mem _ h), B.notSynchronized, hK, hR, hRA⟩
  have hl := lv_entry ([.ref (qM 0), .int a1, .int a2, .int a3, .long a4, .long a6]) (n := 12) (Nat.le_of_ble_eq_true rfl)
  rw [lg_entry_eq]
  generalize (lg_sl ([.ref (qM 0), .int a1, .int a2, .int a3, .long a4, .long a6]) ++ List.replicate (12 - (lg_sl ([.ref (qM 0), .int a1, .int a2, .int a3, .long a4, .long a6])).length) Slot.unset).toArray = ls at hl ⊢
  have hl : lv_has ls 12 [(0, .ref (qM 0)), (1, .int a1), (2, .int a2), (3, .int a3), (4, .long a4), (6, .long a6)] := hl
  exact b_X7_lay_0 (W9 := ((wMd cA qM zM))) qM   C0 zM a1 a2 a3 a4 a6 s.heap [] ls hP (adr.self hD0) va_S.rf hl hf
theorem cw_X7_lay {R : Room} {s : State} {args : Array Value} {own : String} {index : Nat} (ht : ∀ w ∈ wd, w.before args s = true) (hlink : Cond.methodLink own index yX7_lay ∈ wd) (hR : rm_X7_lay.frames + 1 ≤ R.frames ∧ 8 + (12 + 11) + rm_X7_lay.locals ≤ R.locals) : CallW R s args own RX7 index yX7_lay cX7_lay 12 none (.code yX7_lay cX7_lay 12 none :: wd) rm_X7_lay 0 0 5 := cwV9 5 ht wi_881 wi_880 wi_51 wi_60 hlink (by decide +kernel) rfl rfl hR
def rm_X7_integrateLog : Room := { frames := 3, cells := 0, slots := 0, locals := 99 }
def f_X7_integrateLog_22  : Nat → MdS → Int32 → Int32 → Option (MdS)
  | 0, _, _, _ => none
  | fu + 1, zM, x2, x3 => if x3 < 0 then some zM else if (gM_top zM) = (0 : Int64) then some zM else (f_X7_lay zM (1 : Int32) x3 (x2 + (1 : Int32)) (1 : Int64) (x2.toInt64 + (1 : Int64))).bind fun r_3 => (f_X7_scale r_3 ((-x3).toInt64) (x2.toInt64 + (1 : Int64))).bind fun r_4 => f_X7_integrateLog_22  fu r_4 x2 (x3 + (-1))
set_option maxHeartbeats 4000000 in
set_option maxRecDepth 100000 in
theorem b_X7_integrateLog_22 {p : Program} {l : Launch} {e : Env} {s : State} {m : MethodId} {args : Array Value} {below : List Frame} {meth : Method} {c : Code} {G : va_G} {cA : Nat → ClassId} {W9 : va_W} (qM : Nat → Nat) (C0 : Amb p s m args meth c cX7_integrateLog RX7 4 none G cA (adr W9) []) {res : MdS} : ∀ (fu : Nat) (zM : MdS) (x2 : Int32) (x3 : Int32) (H : Heap) (locs : List Loc) (ls : Array Slot), va_P G vwCl ((wMd cA qM zM)) H → va_D (adr W9) ((wMd cA qM zM)) → va_S (adr W9) s.heap H locs → lv_has ls 4 [(0, .ref (qM 0)), (2, .int x2), (3, .int x3)] → f_X7_integrateLog_22 fu zM x2 x3 = some res → W p l e rm_X7_integrateLog s m args below meth c H locs 0 0 (MQ below (qWv G W9 ((wMd cA qM res))) args s 0 0 (adr W9)) (F0 m 22 ls []) := by
  obtain ⟨hx, hb, hr, hml, hown, hts, hlocks, hK, hR, hRA⟩ := id C0
  intro fu
  induction fu with
  | zero =>
    intro zM x2 x3 H locs ls hP hD hS hl hf
    rw [f_X7_integrateLog_22] at hf
    cases hf
  | succ fu ih =>
    intro zM x2 x3 H locs ls hP hD hS hl hf
    rw [f_X7_integrateLog_22] at hf
    refine lv_iload_n hx hb dX7_integrateLog_22 rfl (lv_at hl 2 rfl) ?_
    refine lv_if_lt (tgt := 66) hx hb dX7_integrateLog_23 (by decide) (fun c_1 => ?_) (fun c_1 => ?_)
    · rw [if_pos (c_1)] at hf
      cases hf
      exact W.vret hx hb hr (fun t ht hW => ⟨⟨(), rfl, trivial, toT ht hP⟩, hS.F ht⟩) hS.2.2 dX7_integrateLog_66 hlocks
    · rw [if_neg (c_1)] at hf
      refine lv_aload_n hx hb dX7_integrateLog_26 rfl (lv_at hl 0 rfl) ?_
      refine va_get (D := G) (ci := 5) (v := .long (gM_top zM)) (C := RX7) (T := TX7) (N := 13) hx hb hts fin_X7 hown hK.1 hP 0 rfl rfl 11 (by decide) (hts _ wi_682) (fun _ h9 => h9) rfl dX7_integrateLog_27 ?_
      refine lv_lconst (v := (0 : Int64)) hx hb dX7_integrateLog_30 (by decide) ?_
      refine W.lcmp hx hb dX7_integrateLog_31 ?_
      refine lv_if_eq (tgt := 66) hx hb dX7_integrateLog_32 (by decide) (fun c_2 => ?_) (fun c_2 => ?_)
      · rw [if_pos ((lg_cmp_eq _ _).mp c_2)] at hf
        cases hf
        exact W.vret hx hb hr (fun t ht hW => ⟨⟨(), rfl, trivial, toT ht hP⟩, hS.F ht⟩) hS.2.2 dX7_integrateLog_66 hlocks
      · rw [if_neg (fun h => c_2 ((lg_cmp_eq _ _).mpr h))] at hf
        refine lv_aload_n hx hb dX7_integrateLog_35 rfl (lv_at hl 0 rfl) ?_
        refine lv_iconst (v := 1) hx hb dX7_integrateLog_36 (by decide) ?_
        refine lv_iload_n hx hb dX7_integrateLog_37 rfl (lv_at hl 2 rfl) ?_
        refine lv_iload_n hx hb dX7_integrateLog_38 rfl (lv_at hl 1 rfl) ?_
        refine lv_iconst (v := 1) hx hb dX7_integrateLog_39 (by decide) ?_
        refine lv_iadd hx hb dX7_integrateLog_40 ?_
        refine lv_lconst (v := (1 : Int64)) hx hb dX7_integrateLog_41 (by decide) ?_
        refine lv_iload_n hx hb dX7_integrateLog_42 rfl (lv_at hl 1 rfl) ?_
        refine lv_i2l (v := x2.toInt64) hx hb dX7_integrateLog_43 rfl ?_
        refine lv_lconst (v := (1 : Int64)) hx hb dX7_integrateLog_44 (by decide) ?_
        refine lv_ladd hx hb dX7_integrateLog_45 ?_
        obtain ⟨r_3, hr_3, hf⟩ := obd hf
        refine cWvV (As := [.int (1 : Int32), .int x3, .int (x2 + (1 : Int32)), .long (1 : Int64), .long (x2.toInt64 + (1 : Int64))]) (rest := []) (W1 := ((wMd cA qM r_3))) ⟨hx, hb, hml, hown, hts⟩ (m_X7_lay l G cA qM zM (1 : Int32) x3 (x2 + (1 : Int32)) (1 : Int64) (x2.toInt64 + (1 : Int64)) r_3 hr_3) (cw_X7_lay hts wi_878 ⟨Nat.le_of_ble_eq_true rfl, Nat.le_of_ble_eq_true rfl⟩) hK hP hD hS [0, 1, 2, 3, 4] [5, 6, 7, 8, 9] rfl rfl rfl (by decide) rfl va_Pnil dj_nil (va_recv hK.1 hP (ci := 5) (q0 := 0) rfl rfl) rfl hl.1 rfl (Nat.le_of_ble_eq_true rfl) dX7_integrateLog_46 ⟨Nat.zero_le _, Nat.zero_le _⟩ (fun H locs hP hD hS => ?_)
        refine lv_aload_n hx hb dX7_integrateLog_49 rfl (lv_at hl 0 rfl) ?_
        refine lv_iload_n hx hb dX7_integrateLog_50 rfl (lv_at hl 2 rfl) ?_
        refine lv_ineg hx hb dX7_integrateLog_51 ?_
        refine lv_i2l (v := (-x3).toInt64) hx hb dX7_integrateLog_52 rfl ?_
        refine lv_iload_n hx hb dX7_integrateLog_53 rfl (lv_at hl 1 rfl) ?_
        refine lv_i2l (v := x2.toInt64) hx hb dX7_integrateLog_54 rfl ?_
        refine lv_lconst (v := (1 : Int64)) hx hb dX7_integrateLog_55 (by decide) ?_
        refine lv_ladd hx hb dX7_integrateLog_56 ?_
        obtain ⟨r_4, hr_4, hf⟩ := obd hf
        refine cWvV (As := [.long ((-x3).toInt64), .long (x2.toInt64 + (1 : Int64))]) (rest := []) (W1 := ((wMd cA qM r_4))) ⟨hx, hb, hml, hown, hts⟩ (m_X7_scale l G cA qM r_3 ((-x3).toInt64) (x2.toInt64 + (1 : Int64)) r_4 hr_4) (cw_X7_scale hts wi_882 ⟨Nat.le_of_ble_eq_true rfl, Nat.le_of_ble_eq_true rfl⟩) hK hP hD hS [0, 1, 2, 3, 4] [5, 6, 7, 8, 9] rfl rfl rfl (by decide) rfl va_Pnil dj_nil (va_recv hK.1 hP (ci := 5) (q0 := 0) rfl rfl) rfl hl.1 rfl (Nat.le_of_ble_eq_true rfl) dX7_integrateLog_57 ⟨Nat.zero_le _, Nat.zero_le _⟩ (fun H locs hP hD hS => ?_)
        refine lv_iinc (v := (x3 + (-1))) (lv' := [(3, .int (x3 + (-1))), (0, .ref (qM 0)), (2, .int x2)]) hx hb dX7_integrateLog_60 hl (k := 2) rfl rfl (by decide) rfl (fun ls hl => ?_)
        refine lv_goto (tgt := 22) hx hb dX7_integrateLog_63 (by decide) ?_
        exact ih r_4 x2 (x3 + (-1)) H locs ls hP hD hS (lv_sub hl [1, 2, 0] rfl) hf
def f_X7_integrateLog (zM : MdS) (a1 : Int32) (a2 : Int32) : Option (MdS) := if ¬ a2 = (-1 : Int32) then f_X7_integrateLog_22 fuel zM a2 a1 else (f_X7_lay zM (1 : Int32) (a1 + (1 : Int32)) (0 : Int32) (1 : Int64) (a1.toInt64 + (1 : Int64))).bind fun r_2 => some r_2
set_option maxHeartbeats 4000000 in
set_option maxRecDepth 100000 in
theorem b_X7_integrateLog_0 {p : Program} {l : Launch} {e : Env} {s : State} {m : MethodId} {args : Array Value} {below : List Frame} {meth : Method} {c : Code} {G : va_G} {cA : Nat → ClassId} {W9 : va_W} (qM : Nat → Nat) (C0 : Amb p s m args meth c cX7_integrateLog RX7 4 none G cA (adr W9) []) {res : MdS} : ∀ (zM : MdS) (a1 : Int32) (a2 : Int32) (H : Heap) (locs : List Loc) (ls : Array Slot), va_P G vwCl ((wMd cA qM zM)) H → va_D (adr W9) ((wMd cA qM zM)) → va_S (adr W9) s.heap H locs → lv_has ls 4 [(0, .ref (qM 0)), (1, .int a1), (2, .int a2)] → f_X7_integrateLog zM a1 a2 = some res → W p l e rm_X7_integrateLog s m args below meth c H locs 0 0 (MQ below (qWv G W9 ((wMd cA qM res))) args s 0 0 (adr W9)) (F0 m 0 ls []) := by
  obtain ⟨hx, hb, hr, hml, hown, hts, hlocks, hK, hR, hRA⟩ := id C0
  intro zM a1 a2 H locs ls hP hD hS hl hf
  unfold f_X7_integrateLog at hf
  refine lv_iload_n hx hb dX7_integrateLog_0 rfl (lv_at hl 1 rfl) ?_
  refine lv_istore_n (lv' := [(3, .int a1), (0, .ref (qM 0)), (1, .int a1), (2, .int a2)]) hx hb dX7_integrateLog_1 rfl hl (by decide) rfl (fun ls hl => ?_)
  refine lv_iload_n hx hb dX7_integrateLog_2 rfl (lv_at hl 3 rfl) ?_
  refine lv_iconst (v := (-1)) hx hb dX7_integrateLog_3 (by decide) ?_
  refine lv_icmp_ne (tgt := 22) hx hb dX7_integrateLog_4 (by decide) (fun c_1 => ?_) (fun c_1 => ?_)
  · rw [if_pos (c_1)] at hf
    exact b_X7_integrateLog_22 qM   C0  fuel zM a2 a1 H locs ls hP hD hS (lv_sub hl [1, 3, 0] rfl) hf
  · rw [if_neg (not_not_intro c_1)] at hf
    refine lv_aload_n hx hb dX7_integrateLog_7 rfl (lv_at hl 1 rfl) ?_
    refine lv_iconst (v := 1) hx hb dX7_integrateLog_8 (by decide) ?_
    refine lv_iload_n hx hb dX7_integrateLog_9 rfl (lv_at hl 0 rfl) ?_
    refine lv_iconst (v := 1) hx hb dX7_integrateLog_10 (by decide) ?_
    refine lv_iadd hx hb dX7_integrateLog_11 ?_
    refine lv_iconst (v := 0) hx hb dX7_integrateLog_12 (by decide) ?_
    refine lv_lconst (v := (1 : Int64)) hx hb dX7_integrateLog_13 (by decide) ?_
    refine lv_iload_n hx hb dX7_integrateLog_14 rfl (lv_at hl 0 rfl) ?_
    refine lv_i2l (v := a1.toInt64) hx hb dX7_integrateLog_15 rfl ?_
    refine lv_lconst (v := (1 : Int64)) hx hb dX7_integrateLog_16 (by decide) ?_
    refine lv_ladd hx hb dX7_integrateLog_17 ?_
    obtain ⟨r_2, hr_2, hf⟩ := obd hf
    refine cWvV (As := [.int (1 : Int32), .int (a1 + (1 : Int32)), .int (0 : Int32), .long (1 : Int64), .long (a1.toInt64 + (1 : Int64))]) (rest := []) (W1 := ((wMd cA qM r_2))) ⟨hx, hb, hml, hown, hts⟩ (m_X7_lay l G cA qM zM (1 : Int32) (a1 + (1 : Int32)) (0 : Int32) (1 : Int64) (a1.toInt64 + (1 : Int64)) r_2 hr_2) (cw_X7_lay hts wi_878 ⟨Nat.le_of_ble_eq_true rfl, Nat.le_of_ble_eq_true rfl⟩) hK hP hD hS [0, 1, 2, 3, 4] [5, 6, 7, 8, 9] rfl rfl rfl (by decide) rfl va_Pnil dj_nil (va_recv hK.1 hP (ci := 5) (q0 := 0) rfl rfl) rfl hl.1 rfl (Nat.le_of_ble_eq_true rfl) dX7_integrateLog_18 ⟨Nat.zero_le _, Nat.zero_le _⟩ (fun H locs hP hD hS => ?_)
    cases hf
    exact W.vret hx hb hr (fun t ht hW => ⟨⟨(), rfl, trivial, toT ht hP⟩, hS.F ht⟩) hS.2.2 dX7_integrateLog_21 hlocks

set_option maxRecDepth 100000 in
theorem m_X7_integrateLog (l : Launch) (G : va_G) (cA : Nat → ClassId) (qM : Nat → Nat) (zM : MdS) (a1 : Int32) (a2 : Int32) (res : MdS) (hf : f_X7_integrateLog zM a1 a2 = some res) : MWv l yX7_integrateLog (.code yX7_integrateLog cX7_integrateLog 4 none :: wd) rm_X7_integrateLog G cA [.ref (qM 0), .int a1, .int a2] ((wMd cA qM zM)) [] ((wMd cA qM res)) := by
  refine Met.ofW (cc := cX7_integrateLog) (maxL := 4) (ret := none) (by decide) rfl ?_
  intro p e s m args below meth c s₁ B hml hv
  obtain ⟨rfl, hK, hP, hD0, hR, hRA⟩ := hv
  have C0 : Amb p s m ([.ref (qM 0), .int a1, .int a2] : List Value).toArray meth c cX7_integrateLog RX7 4 none G cA (adr ((wMd cA qM zM))) [] := ⟨B.exec, B.bytes, B.returns, hml, findClass_of_methodNamed B.named, fun w h => atoms_spec (ws := (.code yX7_integrateLog cX7_integrateLog 4 none :: wd)) B.pre w (List.mem_cons_of_mem _ h), B.notSynchronized, hK, hR, hRA⟩
  have hl := lv_entry ([.ref (qM 0), .int a1, .int a2]) (n := 4) (Nat.le_of_ble_eq_true rfl)
  rw [lg_entry_eq]
  generalize (lg_sl ([.ref (qM 0), .int a1, .int a2]) ++ List.replicate (4 - (lg_sl ([.ref (qM 0), .int a1, .int a2])).length) Slot.unset).toArray = ls at hl ⊢
  have hl : lv_has ls 4 [(0, .ref (qM 0)), (1, .int a1), (2, .int a2)] := hl
  exact b_X7_integrateLog_0 (W9 := ((wMd cA qM zM))) qM   C0 zM a1 a2 s.heap [] ls hP (adr.self hD0) va_S.rf hl hf
theorem cw_X7_integrateLog {R : Room} {s : State} {args : Array Value} {own : String} {index : Nat} (ht : ∀ w ∈ wd, w.before args s = true) (hlink : Cond.methodLink own index yX7_integrateLog ∈ wd) (hR : rm_X7_integrateLog.frames + 1 ≤ R.frames ∧ 8 + (4 + 11) + rm_X7_integrateLog.locals ≤ R.locals) : CallW R s args own RX7 index yX7_integrateLog cX7_integrateLog 4 none (.code yX7_integrateLog cX7_integrateLog 4 none :: wd) rm_X7_integrateLog 0 0 2 := cwV9 2 ht wi_877 wi_876 wi_50 wi_60 hlink (by decide +kernel) rfl rfl hR
def rm_X7_integrateOther : Room := { frames := 3, cells := 0, slots := 0, locals := 99 }
def f_X7_integrateOther_163 (kb_102 : MdS → Int32 → Int32 → Int32 → Int32 → Option (MdS)) (zM : MdS) (x2 : Int32) (x3 : Int32) (x5 : Int32) (v0 : Int32) : Option (MdS) := kb_102 zM x2 x3 v0 (x5 + 1)
set_option maxHeartbeats 4000000 in
set_option maxRecDepth 100000 in
theorem b_X7_integrateOther_163 {p : Program} {l : Launch} {e : Env} {s : State} {m : MethodId} {args : Array Value} {below : List Frame} {meth : Method} {c : Code} {G : va_G} {cA : Nat → ClassId} {W9 : va_W} (qM : Nat → Nat) (C0 : Amb p s m args meth c cX7_integrateOther RX7 6 none G cA (adr W9) []) {res : MdS} (kb_102 : MdS → Int32 → Int32 → Int32 → Int32 → Option (MdS)) (hkb_102 : ∀ (zM : MdS) (x2 : Int32) (x3 : Int32) (x4 : Int32) (x5 : Int32) (H : Heap) (locs : List Loc) (ls : Array Slot), va_P G vwCl ((wMd cA qM zM)) H → va_D (adr W9) ((wMd cA qM zM)) → va_S (adr W9) s.heap H locs → lv_has ls 6 [(0, .ref (qM 0)), (2, .int x2), (3, .int x3), (4, .int x4), (5, .int x5)] → kb_102 zM x2 x3 x4 x5 = some res → W p l e rm_X7_integrateOther s m args below meth c H locs 0 0 (MQ below (qWv G W9 ((wMd cA qM res))) args s 0 0 (adr W9)) (F0 m 102 ls [])) : ∀ (zM : MdS) (x2 : Int32) (x3 : Int32) (x5 : Int32) (v0 : Int32) (H : Heap) (locs : List Loc) (ls : Array Slot), va_P G vwCl ((wMd cA qM zM)) H → va_D (adr W9) ((wMd cA qM zM)) → va_S (adr W9) s.heap H locs → lv_has ls 6 [(0, .ref (qM 0)), (2, .int x2), (3, .int x3), (5, .int x5)] → f_X7_integrateOther_163 kb_102 zM x2 x3 x5 v0 = some res → W p l e rm_X7_integrateOther s m args below meth c H locs 0 0 (MQ below (qWv G W9 ((wMd cA qM res))) args s 0 0 (adr W9)) (F0 m 163 ls [.int v0]) := by
  obtain ⟨hx, hb, hr, hml, hown, hts, hlocks, hK, hR, hRA⟩ := id C0
  intro zM x2 x3 x5 v0 H locs ls hP hD hS hl hf
  unfold f_X7_integrateOther_163 at hf
  refine lv_istore (lv' := [(4, .int v0), (0, .ref (qM 0)), (2, .int x2), (3, .int x3), (5, .int x5)]) hx hb dX7_integrateOther_163 hl (by decide) rfl (fun ls hl => ?_)
  refine lv_iinc (v := (x5 + 1)) (lv' := [(5, .int (x5 + 1)), (4, .int v0), (0, .ref (qM 0)), (2, .int x2), (3, .int x3)]) hx hb dX7_integrateOther_165 hl (k := 4) rfl rfl (by decide) rfl (fun ls hl => ?_)
  refine lv_goto (tgt := 102) hx hb dX7_integrateOther_168 (by decide) ?_
  exact hkb_102 zM x2 x3 v0 (x5 + 1) H locs ls hP hD hS (lv_sub hl [2, 3, 4, 1, 0] rfl) hf
def f_X7_integrateOther_140 (kb_102 : MdS → Int32 → Int32 → Int32 → Int32 → Option (MdS)) (zM : MdS) (x2 : Int32) (x3 : Int32) (x4 : Int32) (x5 : Int32) (v1 : Int64) : Option (MdS) := (f_X7_scale zM v1 (x5.toInt64 + (1 : Int64))).bind fun r_1 => if ¬ x4 = (2 : Int32) then f_X7_integrateOther_163 kb_102 r_1 x2 x3 x5 ((7 : Int32) - x4) else f_X7_integrateOther_163 kb_102 r_1 x2 x3 x5 (2 : Int32)
set_option maxHeartbeats 4000000 in
set_option maxRecDepth 100000 in
theorem b_X7_integrateOther_140 {p : Program} {l : Launch} {e : Env} {s : State} {m : MethodId} {args : Array Value} {below : List Frame} {meth : Method} {c : Code} {G : va_G} {cA : Nat → ClassId} {W9 : va_W} (qM : Nat → Nat) (C0 : Amb p s m args meth c cX7_integrateOther RX7 6 none G cA (adr W9) []) {res : MdS} (kb_102 : MdS → Int32 → Int32 → Int32 → Int32 → Option (MdS)) (hkb_102 : ∀ (zM : MdS) (x2 : Int32) (x3 : Int32) (x4 : Int32) (x5 : Int32) (H : Heap) (locs : List Loc) (ls : Array Slot), va_P G vwCl ((wMd cA qM zM)) H → va_D (adr W9) ((wMd cA qM zM)) → va_S (adr W9) s.heap H locs → lv_has ls 6 [(0, .ref (qM 0)), (2, .int x2), (3, .int x3), (4, .int x4), (5, .int x5)] → kb_102 zM x2 x3 x4 x5 = some res → W p l e rm_X7_integrateOther s m args below meth c H locs 0 0 (MQ below (qWv G W9 ((wMd cA qM res))) args s 0 0 (adr W9)) (F0 m 102 ls [])) : ∀ (zM : MdS) (x2 : Int32) (x3 : Int32) (x4 : Int32) (x5 : Int32) (v1 : Int64) (H : Heap) (locs : List Loc) (ls : Array Slot), va_P G vwCl ((wMd cA qM zM)) H → va_D (adr W9) ((wMd cA qM zM)) → va_S (adr W9) s.heap H locs → lv_has ls 6 [(0, .ref (qM 0)), (2, .int x2), (3, .int x3), (4, .int x4), (5, .int x5)] → f_X7_integrateOther_140 kb_102 zM x2 x3 x4 x5 v1 = some res → W p l e rm_X7_integrateOther s m args below meth c H locs 0 0 (MQ below (qWv G W9 ((wMd cA qM res))) args s 0 0 (adr W9)) (F0 m 140 ls [.long v1, .ref (qM 0)]) := by
  obtain ⟨hx, hb, hr, hml, hown, hts, hlocks, hK, hR, hRA⟩ := id C0
  intro zM x2 x3 x4 x5 v1 H locs ls hP hD hS hl hf
  unfold f_X7_integrateOther_140 at hf
  refine lv_iload hx hb dX7_integrateOther_140 (lv_at hl 4 rfl) ?_
  refine lv_i2l (v := x5.toInt64) hx hb dX7_integrateOther_142 rfl ?_
  refine lv_lconst (v := (1 : Int64)) hx hb dX7_integrateOther_143 (by decide) ?_
  refine lv_ladd hx hb dX7_integrateOther_144 ?_
  obtain ⟨r_1, hr_1, hf⟩ := obd hf
  refine cWvV (As := [.long v1, .long (x5.toInt64 + (1 : Int64))]) (rest := []) (W1 := ((wMd cA qM r_1))) ⟨hx, hb, hml, hown, hts⟩ (m_X7_scale l G cA qM zM v1 (x5.toInt64 + (1 : Int64)) r_1 hr_1) (cw_X7_scale hts wi_882 ⟨Nat.le_of_ble_eq_true rfl, Nat.le_of_ble_eq_true rfl⟩) hK hP hD hS [0, 1, 2, 3, 4] [5, 6, 7, 8, 9] rfl rfl rfl (by decide) rfl va_Pnil dj_nil (va_recv hK.1 hP (ci := 5) (q0 := 0) rfl rfl) rfl hl.1 rfl (Nat.le_of_ble_eq_true rfl) dX7_integrateOther_145 ⟨Nat.zero_le _, Nat.zero_le _⟩ (fun H locs hP hD hS => ?_)
  refine lv_iload hx hb dX7_integrateOther_148 (lv_at hl 3 rfl) ?_
  refine lv_iconst (v := 2) hx hb dX7_integrateOther_150 (by decide) ?_
  refine lv_icmp_ne (tgt := 158) hx hb dX7_integrateOther_151 (by decide) (fun c_2 => ?_) (fun c_2 => ?_)
  · rw [if_pos (c_2)] at hf
    refine lv_bipush (v := (7 : Int32)) hx hb dX7_integrateOther_158 (by decide) ?_
    refine lv_iload hx hb dX7_integrateOther_160 (lv_at hl 3 rfl) ?_
    refine lv_isub hx hb dX7_integrateOther_162 ?_
    exact b_X7_integrateOther_163 qM   C0 kb_102 hkb_102 r_1 x2 x3 x5 ((7 : Int32) - x4) H locs ls hP hD hS (lv_sub hl [0, 1, 2, 4] rfl) hf
  · rw [if_neg (not_not_intro c_2)] at hf
    refine lv_iconst (v := 2) hx hb dX7_integrateOther_154 (by decide) ?_
    refine lv_goto (tgt := 163) hx hb dX7_integrateOther_155 (by decide) ?_
    exact b_X7_integrateOther_163 qM   C0 kb_102 hkb_102 r_1 x2 x3 x5 (2 : Int32) H locs ls hP hD hS (lv_sub hl [0, 1, 2, 4] rfl) hf
def f_X7_integrateOther_102  : Nat → MdS → Int32 → Int32 → Int32 → Int32 → Option (MdS)
  | 0, _, _, _, _, _ => none
  | fu + 1, zM, x2, x3, x4, x5 => if (-1 : Int32) ≤ x5 then if 0 ≤ x3 then some zM else (f_X7_addTerm zM (9 : Int32) x4 x2 (-1 : Int32) (gM_top zM) (gM_bottom zM)).bind fun r_3 => some r_3 else (f_X7_lay zM x4 x2 (x5 + (1 : Int32)) (1 : Int64) (x5.toInt64 + (1 : Int64))).bind fun r_4 => if ¬ x4 = (4 : Int32) then f_X7_integrateOther_140 (fun zM_ x2_ x3_ x4_ x5_ => f_X7_integrateOther_102  fu zM_ x2_ x3_ x4_ x5_) r_4 x2 x3 x4 x5 ((-x2).toInt64) else f_X7_integrateOther_140 (fun zM_ x2_ x3_ x4_ x5_ => f_X7_integrateOther_102  fu zM_ x2_ x3_ x4_ x5_) r_4 x2 x3 x4 x5 x2.toInt64
set_option maxHeartbeats 4000000 in
set_option maxRecDepth 100000 in
theorem b_X7_integrateOther_102 {p : Program} {l : Launch} {e : Env} {s : State} {m : MethodId} {args : Array Value} {below : List Frame} {meth : Method} {c : Code} {G : va_G} {cA : Nat → ClassId} {W9 : va_W} (qM : Nat → Nat) (C0 : Amb p s m args meth c cX7_integrateOther RX7 6 none G cA (adr W9) []) {res : MdS} : ∀ (fu : Nat) (zM : MdS) (x2 : Int32) (x3 : Int32) (x4 : Int32) (x5 : Int32) (H : Heap) (locs : List Loc) (ls : Array Slot), va_P G vwCl ((wMd cA qM zM)) H → va_D (adr W9) ((wMd cA qM zM)) → va_S (adr W9) s.heap H locs → lv_has ls 6 [(0, .ref (qM 0)), (2, .int x2), (3, .int x3), (4, .int x4), (5, .int x5)] → f_X7_integrateOther_102 fu zM x2 x3 x4 x5 = some res → W p l e rm_X7_integrateOther s m args below meth c H locs 0 0 (MQ below (qWv G W9 ((wMd cA qM res))) args s 0 0 (adr W9)) (F0 m 102 ls []) := by
  obtain ⟨hx, hb, hr, hml, hown, hts, hlocks, hK, hR, hRA⟩ := id C0
  intro fu
  induction fu with
  | zero =>
    intro zM x2 x3 x4 x5 H locs ls hP hD hS hl hf
    rw [f_X7_integrateOther_102] at hf
    cases hf
  | succ fu ih =>
    intro zM x2 x3 x4 x5 H locs ls hP hD hS hl hf
    rw [f_X7_integrateOther_102] at hf
    refine lv_iload hx hb dX7_integrateOther_102 (lv_at hl 4 rfl) ?_
    refine lv_iconst (v := (-1)) hx hb dX7_integrateOther_104 (by decide) ?_
    refine lv_icmp_ge (tgt := 171) hx hb dX7_integrateOther_105 (by decide) (fun c_1 => ?_) (fun c_1 => ?_)
    · rw [if_pos (c_1)] at hf
      refine lv_iload_n hx hb dX7_integrateOther_171 rfl (lv_at hl 2 rfl) ?_
      refine lv_if_ge (tgt := 193) hx hb dX7_integrateOther_172 (by decide) (fun c_2 => ?_) (fun c_2 => ?_)
      · rw [if_pos (c_2)] at hf
        cases hf
        exact W.vret hx hb hr (fun t ht hW => ⟨⟨(), rfl, trivial, toT ht hP⟩, hS.F ht⟩) hS.2.2 dX7_integrateOther_193 hlocks
      · rw [if_neg (c_2)] at hf
        refine lv_aload_n hx hb dX7_integrateOther_175 rfl (lv_at hl 0 rfl) ?_
        refine lv_bipush (v := (9 : Int32)) hx hb dX7_integrateOther_176 (by decide) ?_
        refine lv_iload hx hb dX7_integrateOther_178 (lv_at hl 3 rfl) ?_
        refine lv_iload_n hx hb dX7_integrateOther_180 rfl (lv_at hl 1 rfl) ?_
        refine lv_iconst (v := (-1)) hx hb dX7_integrateOther_181 (by decide) ?_
        refine lv_aload_n hx hb dX7_integrateOther_182 rfl (lv_at hl 0 rfl) ?_
        refine va_get (D := G) (ci := 5) (v := .long (gM_top zM)) (C := RX7) (T := TX7) (N := 13) hx hb hts fin_X7 hown hK.1 hP 0 rfl rfl 11 (by decide) (hts _ wi_682) (fun _ h9 => h9) rfl dX7_integrateOther_183 ?_
        refine lv_aload_n hx hb dX7_integrateOther_186 rfl (lv_at hl 0 rfl) ?_
        refine va_get (D := G) (ci := 5) (v := .long (gM_bottom zM)) (C := RX7) (T := TX7) (N := 13) hx hb hts fin_X7 hown hK.1 hP 0 rfl rfl 12 (by decide) (hts _ wi_683) (fun _ h9 => h9) rfl dX7_integrateOther_187 ?_
        obtain ⟨r_3, hr_3, hf⟩ := obd hf
        refine cWvV (As := [.int (9 : Int32), .int x4, .int x2, .int (-1 : Int32), .long (gM_top zM), .long (gM_bottom zM)]) (rest := []) (W1 := ((wMd cA qM r_3))) ⟨hx, hb, hml, hown, hts⟩ (m_X7_addTerm l G cA qM zM (9 : Int32) x4 x2 (-1 : Int32) (gM_top zM) (gM_bottom zM) r_3 hr_3) (cw_X7_addTerm hts wi_772 ⟨Nat.le_of_ble_eq_true rfl, Nat.le_of_ble_eq_true rfl⟩) hK hP hD hS [0, 1, 2, 3, 4] [5, 6, 7, 8, 9] rfl rfl rfl (by decide) rfl va_Pnil dj_nil (va_recv hK.1 hP (ci := 5) (q0 := 0) rfl rfl) rfl hl.1 rfl (Nat.le_of_ble_eq_true rfl) dX7_integrateOther_190 ⟨Nat.zero_le _, Nat.zero_le _⟩ (fun H locs hP hD hS => ?_)
        cases hf
        exact W.vret hx hb hr (fun t ht hW => ⟨⟨(), rfl, trivial, toT ht hP⟩, hS.F ht⟩) hS.2.2 dX7_integrateOther_193 hlocks
    · rw [if_neg (c_1)] at hf
      refine lv_aload_n hx hb dX7_integrateOther_108 rfl (lv_at hl 0 rfl) ?_
      refine lv_iload hx hb dX7_integrateOther_109 (lv_at hl 3 rfl) ?_
      refine lv_iload_n hx hb dX7_integrateOther_111 rfl (lv_at hl 1 rfl) ?_
      refine lv_iload hx hb dX7_integrateOther_112 (lv_at hl 4 rfl) ?_
      refine lv_iconst (v := 1) hx hb dX7_integrateOther_114 (by decide) ?_
      refine lv_iadd hx hb dX7_integrateOther_115 ?_
      refine lv_lconst (v := (1 : Int64)) hx hb dX7_integrateOther_116 (by decide) ?_
      refine lv_iload hx hb dX7_integrateOther_117 (lv_at hl 4 rfl) ?_
      refine lv_i2l (v := x5.toInt64) hx hb dX7_integrateOther_119 rfl ?_
      refine lv_lconst (v := (1 : Int64)) hx hb dX7_integrateOther_120 (by decide) ?_
      refine lv_ladd hx hb dX7_integrateOther_121 ?_
      obtain ⟨r_4, hr_4, hf⟩ := obd hf
      refine cWvV (As := [.int x4, .int x2, .int (x5 + (1 : Int32)), .long (1 : Int64), .long (x5.toInt64 + (1 : Int64))]) (rest := []) (W1 := ((wMd cA qM r_4))) ⟨hx, hb, hml, hown, hts⟩ (m_X7_lay l G cA qM zM x4 x2 (x5 + (1 : Int32)) (1 : Int64) (x5.toInt64 + (1 : Int64)) r_4 hr_4) (cw_X7_lay hts wi_878 ⟨Nat.le_of_ble_eq_true rfl, Nat.le_of_ble_eq_true rfl⟩) hK hP hD hS [0, 1, 2, 3, 4] [5, 6, 7, 8, 9] rfl rfl rfl (by decide) rfl va_Pnil dj_nil (va_recv hK.1 hP (ci := 5) (q0 := 0) rfl rfl) rfl hl.1 rfl (Nat.le_of_ble_eq_true rfl) dX7_integrateOther_122 ⟨Nat.zero_le _, Nat.zero_le _⟩ (fun H locs hP hD hS => ?_)
      refine lv_aload_n hx hb dX7_integrateOther_125 rfl (lv_at hl 0 rfl) ?_
      refine lv_iload hx hb dX7_integrateOther_126 (lv_at hl 3 rfl) ?_
      refine lv_iconst (v := 4) hx hb dX7_integrateOther_128 (by decide) ?_
      refine lv_icmp_ne (tgt := 137) hx hb dX7_integrateOther_129 (by decide) (fun c_5 => ?_) (fun c_5 => ?_)
      · rw [if_pos (c_5)] at hf
        refine lv_iload_n hx hb dX7_integrateOther_137 rfl (lv_at hl 1 rfl) ?_
        refine lv_ineg hx hb dX7_integrateOther_138 ?_
        refine lv_i2l (v := (-x2).toInt64) hx hb dX7_integrateOther_139 rfl ?_
        exact b_X7_integrateOther_140 qM   C0 (fun zM_ x2_ x3_ x4_ x5_ => f_X7_integrateOther_102  fu zM_ x2_ x3_ x4_ x5_) ih r_4 x2 x3 x4 x5 ((-x2).toInt64) H locs ls hP hD hS (lv_sub hl [0, 1, 2, 3, 4] rfl) hf
      · rw [if_neg (not_not_intro c_5)] at hf
        refine lv_iload_n hx hb dX7_integrateOther_132 rfl (lv_at hl 1 rfl) ?_
        refine lv_i2l (v := x2.toInt64) hx hb dX7_integrateOther_133 rfl ?_
        refine lv_goto (tgt := 140) hx hb dX7_integrateOther_134 (by decide) ?_
        exact b_X7_integrateOther_140 qM   C0 (fun zM_ x2_ x3_ x4_ x5_ => f_X7_integrateOther_102  fu zM_ x2_ x3_ x4_ x5_) ih r_4 x2 x3 x4 x5 x2.toInt64 H locs ls hP hD hS (lv_sub hl [0, 1, 2, 3, 4] rfl) hf
def f_X7_integrateOther_94 (kb_6 : MdS → Int32 → Int32 → Int32 → Int32 → Option (MdS)) (zM : MdS) (x2 : Int32) (x3 : Int32) (x5 : Int32) (v0 : Int32) : Option (MdS) := kb_6 zM x2 x3 v0 (x5 + (-1))
set_option maxHeartbeats 4000000 in
set_option maxRecDepth 100000 in
theorem b_X7_integrateOther_94 {p : Program} {l : Launch} {e : Env} {s : State} {m : MethodId} {args : Array Value} {below : List Frame} {meth : Method} {c : Code} {G : va_G} {cA : Nat → ClassId} {W9 : va_W} (qM : Nat → Nat) (C0 : Amb p s m args meth c cX7_integrateOther RX7 6 none G cA (adr W9) []) {res : MdS} (kb_6 : MdS → Int32 → Int32 → Int32 → Int32 → Option (MdS)) (hkb_6 : ∀ (zM : MdS) (x2 : Int32) (x3 : Int32) (x4 : Int32) (x5 : Int32) (H : Heap) (locs : List Loc) (ls : Array Slot), va_P G vwCl ((wMd cA qM zM)) H → va_D (adr W9) ((wMd cA qM zM)) → va_S (adr W9) s.heap H locs → lv_has ls 6 [(0, .ref (qM 0)), (2, .int x2), (3, .int x3), (4, .int x4), (5, .int x5)] → kb_6 zM x2 x3 x4 x5 = some res → W p l e rm_X7_integrateOther s m args below meth c H locs 0 0 (MQ below (qWv G W9 ((wMd cA qM res))) args s 0 0 (adr W9)) (F0 m 6 ls [])) : ∀ (zM : MdS) (x2 : Int32) (x3 : Int32) (x5 : Int32) (v0 : Int32) (H : Heap) (locs : List Loc) (ls : Array Slot), va_P G vwCl ((wMd cA qM zM)) H → va_D (adr W9) ((wMd cA qM zM)) → va_S (adr W9) s.heap H locs → lv_has ls 6 [(0, .ref (qM 0)), (2, .int x2), (3, .int x3), (5, .int x5)] → f_X7_integrateOther_94 kb_6 zM x2 x3 x5 v0 = some res → W p l e rm_X7_integrateOther s m args below meth c H locs 0 0 (MQ below (qWv G W9 ((wMd cA qM res))) args s 0 0 (adr W9)) (F0 m 94 ls [.int v0]) := by
  obtain ⟨hx, hb, hr, hml, hown, hts, hlocks, hK, hR, hRA⟩ := id C0
  intro zM x2 x3 x5 v0 H locs ls hP hD hS hl hf
  unfold f_X7_integrateOther_94 at hf
  refine lv_istore (lv' := [(4, .int v0), (0, .ref (qM 0)), (2, .int x2), (3, .int x3), (5, .int x5)]) hx hb dX7_integrateOther_94 hl (by decide) rfl (fun ls hl => ?_)
  refine lv_iinc (v := (x5 + (-1))) (lv' := [(5, .int (x5 + (-1))), (4, .int v0), (0, .ref (qM 0)), (2, .int x2), (3, .int x3)]) hx hb dX7_integrateOther_96 hl (k := 4) rfl rfl (by decide) rfl (fun ls hl => ?_)
  refine lv_goto (tgt := 6) hx hb dX7_integrateOther_99 (by decide) ?_
  exact hkb_6 zM x2 x3 v0 (x5 + (-1)) H locs ls hP hD hS (lv_sub hl [2, 3, 4, 1, 0] rfl) hf
def f_X7_integrateOther_74 (kb_6 : MdS → Int32 → Int32 → Int32 → Int32 → Option (MdS)) (zM : MdS) (x2 : Int32) (x3 : Int32) (x4 : Int32) (x5 : Int32) (v1 : Int64) : Option (MdS) := (f_X7_scale zM v1 x2.toInt64).bind fun r_1 => if ¬ x4 = (2 : Int32) then f_X7_integrateOther_94 kb_6 r_1 x2 x3 x5 ((7 : Int32) - x4) else f_X7_integrateOther_94 kb_6 r_1 x2 x3 x5 (2 : Int32)
set_option maxHeartbeats 4000000 in
set_option maxRecDepth 100000 in
theorem b_X7_integrateOther_74 {p : Program} {l : Launch} {e : Env} {s : State} {m : MethodId} {args : Array Value} {below : List Frame} {meth : Method} {c : Code} {G : va_G} {cA : Nat → ClassId} {W9 : va_W} (qM : Nat → Nat) (C0 : Amb p s m args meth c cX7_integrateOther RX7 6 none G cA (adr W9) []) {res : MdS} (kb_6 : MdS → Int32 → Int32 → Int32 → Int32 → Option (MdS)) (hkb_6 : ∀ (zM : MdS) (x2 : Int32) (x3 : Int32) (x4 : Int32) (x5 : Int32) (H : Heap) (locs : List Loc) (ls : Array Slot), va_P G vwCl ((wMd cA qM zM)) H → va_D (adr W9) ((wMd cA qM zM)) → va_S (adr W9) s.heap H locs → lv_has ls 6 [(0, .ref (qM 0)), (2, .int x2), (3, .int x3), (4, .int x4), (5, .int x5)] → kb_6 zM x2 x3 x4 x5 = some res → W p l e rm_X7_integrateOther s m args below meth c H locs 0 0 (MQ below (qWv G W9 ((wMd cA qM res))) args s 0 0 (adr W9)) (F0 m 6 ls [])) : ∀ (zM : MdS) (x2 : Int32) (x3 : Int32) (x4 : Int32) (x5 : Int32) (v1 : Int64) (H : Heap) (locs : List Loc) (ls : Array Slot), va_P G vwCl ((wMd cA qM zM)) H → va_D (adr W9) ((wMd cA qM zM)) → va_S (adr W9) s.heap H locs → lv_has ls 6 [(0, .ref (qM 0)), (2, .int x2), (3, .int x3), (4, .int x4), (5, .int x5)] → f_X7_integrateOther_74 kb_6 zM x2 x3 x4 x5 v1 = some res → W p l e rm_X7_integrateOther s m args below meth c H locs 0 0 (MQ below (qWv G W9 ((wMd cA qM res))) args s 0 0 (adr W9)) (F0 m 74 ls [.long v1, .ref (qM 0)]) := by
  obtain ⟨hx, hb, hr, hml, hown, hts, hlocks, hK, hR, hRA⟩ := id C0
  intro zM x2 x3 x4 x5 v1 H locs ls hP hD hS hl hf
  unfold f_X7_integrateOther_74 at hf
  refine lv_iload_n hx hb dX7_integrateOther_74 rfl (lv_at hl 1 rfl) ?_
  refine lv_i2l (v := x2.toInt64) hx hb dX7_integrateOther_75 rfl ?_
  obtain ⟨r_1, hr_1, hf⟩ := obd hf
  refine cWvV (As := [.long v1, .long x2.toInt64]) (rest := []) (W1 := ((wMd cA qM r_1))) ⟨hx, hb, hml, hown, hts⟩ (m_X7_scale l G cA qM zM v1 x2.toInt64 r_1 hr_1) (cw_X7_scale hts wi_882 ⟨Nat.le_of_ble_eq_true rfl, Nat.le_of_ble_eq_true rfl⟩) hK hP hD hS [0, 1, 2, 3, 4] [5, 6, 7, 8, 9] rfl rfl rfl (by decide) rfl va_Pnil dj_nil (va_recv hK.1 hP (ci := 5) (q0 := 0) rfl rfl) rfl hl.1 rfl (Nat.le_of_ble_eq_true rfl) dX7_integrateOther_76 ⟨Nat.zero_le _, Nat.zero_le _⟩ (fun H locs hP hD hS => ?_)
  refine lv_iload hx hb dX7_integrateOther_79 (lv_at hl 3 rfl) ?_
  refine lv_iconst (v := 2) hx hb dX7_integrateOther_81 (by decide) ?_
  refine lv_icmp_ne (tgt := 89) hx hb dX7_integrateOther_82 (by decide) (fun c_2 => ?_) (fun c_2 => ?_)
  · rw [if_pos (c_2)] at hf
    refine lv_bipush (v := (7 : Int32)) hx hb dX7_integrateOther_89 (by decide) ?_
    refine lv_iload hx hb dX7_integrateOther_91 (lv_at hl 3 rfl) ?_
    refine lv_isub hx hb dX7_integrateOther_93 ?_
    exact b_X7_integrateOther_94 qM   C0 kb_6 hkb_6 r_1 x2 x3 x5 ((7 : Int32) - x4) H locs ls hP hD hS (lv_sub hl [0, 1, 2, 4] rfl) hf
  · rw [if_neg (not_not_intro c_2)] at hf
    refine lv_iconst (v := 2) hx hb dX7_integrateOther_85 (by decide) ?_
    refine lv_goto (tgt := 94) hx hb dX7_integrateOther_86 (by decide) ?_
    exact b_X7_integrateOther_94 qM   C0 kb_6 hkb_6 r_1 x2 x3 x5 (2 : Int32) H locs ls hP hD hS (lv_sub hl [0, 1, 2, 4] rfl) hf
def f_X7_integrateOther_52 (kb_6 : MdS → Int32 → Int32 → Int32 → Int32 → Option (MdS)) (zM : MdS) (x2 : Int32) (x3 : Int32) (x4 : Int32) (x5 : Int32) (v1 : Int32) (v2 : Int32) (v3 : Int32) (v4 : Int64) : Option (MdS) := (f_X7_lay zM v1 v2 v3 v4 x2.toInt64).bind fun r_1 => if ¬ x4 = (3 : Int32) then f_X7_integrateOther_74 kb_6 r_1 x2 x3 x4 x5 ((-x5).toInt64) else f_X7_integrateOther_74 kb_6 r_1 x2 x3 x4 x5 x5.toInt64
set_option maxHeartbeats 4000000 in
set_option maxRecDepth 100000 in
theorem b_X7_integrateOther_52 {p : Program} {l : Launch} {e : Env} {s : State} {m : MethodId} {args : Array Value} {below : List Frame} {meth : Method} {c : Code} {G : va_G} {cA : Nat → ClassId} {W9 : va_W} (qM : Nat → Nat) (C0 : Amb p s m args meth c cX7_integrateOther RX7 6 none G cA (adr W9) []) {res : MdS} (kb_6 : MdS → Int32 → Int32 → Int32 → Int32 → Option (MdS)) (hkb_6 : ∀ (zM : MdS) (x2 : Int32) (x3 : Int32) (x4 : Int32) (x5 : Int32) (H : Heap) (locs : List Loc) (ls : Array Slot), va_P G vwCl ((wMd cA qM zM)) H → va_D (adr W9) ((wMd cA qM zM)) → va_S (adr W9) s.heap H locs → lv_has ls 6 [(0, .ref (qM 0)), (2, .int x2), (3, .int x3), (4, .int x4), (5, .int x5)] → kb_6 zM x2 x3 x4 x5 = some res → W p l e rm_X7_integrateOther s m args below meth c H locs 0 0 (MQ below (qWv G W9 ((wMd cA qM res))) args s 0 0 (adr W9)) (F0 m 6 ls [])) : ∀ (zM : MdS) (x2 : Int32) (x3 : Int32) (x4 : Int32) (x5 : Int32) (v1 : Int32) (v2 : Int32) (v3 : Int32) (v4 : Int64) (H : Heap) (locs : List Loc) (ls : Array Slot), va_P G vwCl ((wMd cA qM zM)) H → va_D (adr W9) ((wMd cA qM zM)) → va_S (adr W9) s.heap H locs → lv_has ls 6 [(0, .ref (qM 0)), (2, .int x2), (3, .int x3), (4, .int x4), (5, .int x5)] → f_X7_integrateOther_52 kb_6 zM x2 x3 x4 x5 v1 v2 v3 v4 = some res → W p l e rm_X7_integrateOther s m args below meth c H locs 0 0 (MQ below (qWv G W9 ((wMd cA qM res))) args s 0 0 (adr W9)) (F0 m 52 ls [.long v4, .int v3, .int v2, .int v1, .ref (qM 0)]) := by
  obtain ⟨hx, hb, hr, hml, hown, hts, hlocks, hK, hR, hRA⟩ := id C0
  intro zM x2 x3 x4 x5 v1 v2 v3 v4 H locs ls hP hD hS hl hf
  unfold f_X7_integrateOther_52 at hf
  refine lv_iload_n hx hb dX7_integrateOther_52 rfl (lv_at hl 1 rfl) ?_
  refine lv_i2l (v := x2.toInt64) hx hb dX7_integrateOther_53 rfl ?_
  obtain ⟨r_1, hr_1, hf⟩ := obd hf
  refine cWvV (As := [.int v1, .int v2, .int v3, .long v4, .long x2.toInt64]) (rest := []) (W1 := ((wMd cA qM r_1))) ⟨hx, hb, hml, hown, hts⟩ (m_X7_lay l G cA qM zM v1 v2 v3 v4 x2.toInt64 r_1 hr_1) (cw_X7_lay hts wi_878 ⟨Nat.le_of_ble_eq_true rfl, Nat.le_of_ble_eq_true rfl⟩) hK hP hD hS [0, 1, 2, 3, 4] [5, 6, 7, 8, 9] rfl rfl rfl (by decide) rfl va_Pnil dj_nil (va_recv hK.1 hP (ci := 5) (q0 := 0) rfl rfl) rfl hl.1 rfl (Nat.le_of_ble_eq_true rfl) dX7_integrateOther_54 ⟨Nat.zero_le _, Nat.zero_le _⟩ (fun H locs hP hD hS => ?_)
  refine lv_aload_n hx hb dX7_integrateOther_57 rfl (lv_at hl 0 rfl) ?_
  refine lv_iload hx hb dX7_integrateOther_58 (lv_at hl 3 rfl) ?_
  refine lv_iconst (v := 3) hx hb dX7_integrateOther_60 (by decide) ?_
  refine lv_icmp_ne (tgt := 70) hx hb dX7_integrateOther_61 (by decide) (fun c_2 => ?_) (fun c_2 => ?_)
  · rw [if_pos (c_2)] at hf
    refine lv_iload hx hb dX7_integrateOther_70 (lv_at hl 4 rfl) ?_
    refine lv_ineg hx hb dX7_integrateOther_72 ?_
    refine lv_i2l (v := (-x5).toInt64) hx hb dX7_integrateOther_73 rfl ?_
    exact b_X7_integrateOther_74 qM   C0 kb_6 hkb_6 r_1 x2 x3 x4 x5 ((-x5).toInt64) H locs ls hP hD hS (lv_sub hl [0, 1, 2, 3, 4] rfl) hf
  · rw [if_neg (not_not_intro c_2)] at hf
    refine lv_iload hx hb dX7_integrateOther_64 (lv_at hl 4 rfl) ?_
    refine lv_i2l (v := x5.toInt64) hx hb dX7_integrateOther_66 rfl ?_
    refine lv_goto (tgt := 74) hx hb dX7_integrateOther_67 (by decide) ?_
    exact b_X7_integrateOther_74 qM   C0 kb_6 hkb_6 r_1 x2 x3 x4 x5 x5.toInt64 H locs ls hP hD hS (lv_sub hl [0, 1, 2, 3, 4] rfl) hf
def f_X7_integrateOther_36 (kb_6 : MdS → Int32 → Int32 → Int32 → Int32 → Option (MdS)) (zM : MdS) (x2 : Int32) (x3 : Int32) (x4 : Int32) (x5 : Int32) (v1 : Int32) : Option (MdS) := if ¬ x4 = (3 : Int32) then f_X7_integrateOther_52 kb_6 zM x2 x3 x4 x5 v1 x2 x5 (1 : Int64) else f_X7_integrateOther_52 kb_6 zM x2 x3 x4 x5 v1 x2 x5 (-1 : Int64)
set_option maxHeartbeats 4000000 in
set_option maxRecDepth 100000 in
theorem b_X7_integrateOther_36 {p : Program} {l : Launch} {e : Env} {s : State} {m : MethodId} {args : Array Value} {below : List Frame} {meth : Method} {c : Code} {G : va_G} {cA : Nat → ClassId} {W9 : va_W} (qM : Nat → Nat) (C0 : Amb p s m args meth c cX7_integrateOther RX7 6 none G cA (adr W9) []) {res : MdS} (kb_6 : MdS → Int32 → Int32 → Int32 → Int32 → Option (MdS)) (hkb_6 : ∀ (zM : MdS) (x2 : Int32) (x3 : Int32) (x4 : Int32) (x5 : Int32) (H : Heap) (locs : List Loc) (ls : Array Slot), va_P G vwCl ((wMd cA qM zM)) H → va_D (adr W9) ((wMd cA qM zM)) → va_S (adr W9) s.heap H locs → lv_has ls 6 [(0, .ref (qM 0)), (2, .int x2), (3, .int x3), (4, .int x4), (5, .int x5)] → kb_6 zM x2 x3 x4 x5 = some res → W p l e rm_X7_integrateOther s m args below meth c H locs 0 0 (MQ below (qWv G W9 ((wMd cA qM res))) args s 0 0 (adr W9)) (F0 m 6 ls [])) : ∀ (zM : MdS) (x2 : Int32) (x3 : Int32) (x4 : Int32) (x5 : Int32) (v1 : Int32) (H : Heap) (locs : List Loc) (ls : Array Slot), va_P G vwCl ((wMd cA qM zM)) H → va_D (adr W9) ((wMd cA qM zM)) → va_S (adr W9) s.heap H locs → lv_has ls 6 [(0, .ref (qM 0)), (2, .int x2), (3, .int x3), (4, .int x4), (5, .int x5)] → f_X7_integrateOther_36 kb_6 zM x2 x3 x4 x5 v1 = some res → W p l e rm_X7_integrateOther s m args below meth c H locs 0 0 (MQ below (qWv G W9 ((wMd cA qM res))) args s 0 0 (adr W9)) (F0 m 36 ls [.int v1, .ref (qM 0)]) := by
  obtain ⟨hx, hb, hr, hml, hown, hts, hlocks, hK, hR, hRA⟩ := id C0
  intro zM x2 x3 x4 x5 v1 H locs ls hP hD hS hl hf
  unfold f_X7_integrateOther_36 at hf
  refine lv_iload_n hx hb dX7_integrateOther_36 rfl (lv_at hl 1 rfl) ?_
  refine lv_iload hx hb dX7_integrateOther_37 (lv_at hl 4 rfl) ?_
  refine lv_iload hx hb dX7_integrateOther_39 (lv_at hl 3 rfl) ?_
  refine lv_iconst (v := 3) hx hb dX7_integrateOther_41 (by decide) ?_
  refine lv_icmp_ne (tgt := 51) hx hb dX7_integrateOther_42 (by decide) (fun c_1 => ?_) (fun c_1 => ?_)
  · rw [if_pos (c_1)] at hf
    refine lv_lconst (v := (1 : Int64)) hx hb dX7_integrateOther_51 (by decide) ?_
    exact b_X7_integrateOther_52 qM   C0 kb_6 hkb_6 zM x2 x3 x4 x5 v1 x2 x5 (1 : Int64) H locs ls hP hD hS (lv_sub hl [0, 1, 2, 3, 4] rfl) hf
  · rw [if_neg (not_not_intro c_1)] at hf
    refine lv_ldc2 (v := (-1 : Int64)) hx hb hown (hts _ wi_890) dX7_integrateOther_45 ?_
    refine lv_goto (tgt := 52) hx hb dX7_integrateOther_48 (by decide) ?_
    exact b_X7_integrateOther_52 qM   C0 kb_6 hkb_6 zM x2 x3 x4 x5 v1 x2 x5 (-1 : Int64) H locs ls hP hD hS (lv_sub hl [0, 1, 2, 3, 4] rfl) hf
def f_X7_integrateOther_6  : Nat → MdS → Int32 → Int32 → Int32 → Int32 → Option (MdS)
  | 0, _, _, _, _, _ => none
  | fu + 1, zM, x2, x3, x4, x5 => if x5 < 0 then f_X7_integrateOther_102 fuel zM x2 x3 x4 x5 else if (gM_top zM) = (0 : Int64) then f_X7_integrateOther_102 fuel zM x2 x3 x4 x5 else if ¬ x4 = (2 : Int32) then f_X7_integrateOther_36 (fun zM_ x2_ x3_ x4_ x5_ => f_X7_integrateOther_6  fu zM_ x2_ x3_ x4_ x5_) zM x2 x3 x4 x5 ((7 : Int32) - x4) else f_X7_integrateOther_36 (fun zM_ x2_ x3_ x4_ x5_ => f_X7_integrateOther_6  fu zM_ x2_ x3_ x4_ x5_) zM x2 x3 x4 x5 (2 : Int32)
set_option maxHeartbeats 4000000 in
set_option maxRecDepth 100000 in
theorem b_X7_integrateOther_6 {p : Program} {l : Launch} {e : Env} {s : State} {m : MethodId} {args : Array Value} {below : List Frame} {meth : Method} {c : Code} {G : va_G} {cA : Nat → ClassId} {W9 : va_W} (qM : Nat → Nat) (C0 : Amb p s m args meth c cX7_integrateOther RX7 6 none G cA (adr W9) []) {res : MdS} : ∀ (fu : Nat) (zM : MdS) (x2 : Int32) (x3 : Int32) (x4 : Int32) (x5 : Int32) (H : Heap) (locs : List Loc) (ls : Array Slot), va_P G vwCl ((wMd cA qM zM)) H → va_D (adr W9) ((wMd cA qM zM)) → va_S (adr W9) s.heap H locs → lv_has ls 6 [(0, .ref (qM 0)), (2, .int x2), (3, .int x3), (4, .int x4), (5, .int x5)] → f_X7_integrateOther_6 fu zM x2 x3 x4 x5 = some res → W p l e rm_X7_integrateOther s m args below meth c H locs 0 0 (MQ below (qWv G W9 ((wMd cA qM res))) args s 0 0 (adr W9)) (F0 m 6 ls []) := by
  obtain ⟨hx, hb, hr, hml, hown, hts, hlocks, hK, hR, hRA⟩ := id C0
  intro fu
  induction fu with
  | zero =>
    intro zM x2 x3 x4 x5 H locs ls hP hD hS hl hf
    rw [f_X7_integrateOther_6] at hf
    cases hf
  | succ fu ih =>
    intro zM x2 x3 x4 x5 H locs ls hP hD hS hl hf
    rw [f_X7_integrateOther_6] at hf
    refine lv_iload hx hb dX7_integrateOther_6 (lv_at hl 4 rfl) ?_
    refine lv_if_lt (tgt := 102) hx hb dX7_integrateOther_8 (by decide) (fun c_1 => ?_) (fun c_1 => ?_)
    · rw [if_pos (c_1)] at hf
      exact b_X7_integrateOther_102 qM   C0  fuel zM x2 x3 x4 x5 H locs ls hP hD hS (lv_sub hl [0, 1, 2, 3, 4] rfl) hf
    · rw [if_neg (c_1)] at hf
      refine lv_aload_n hx hb dX7_integrateOther_11 rfl (lv_at hl 0 rfl) ?_
      refine va_get (D := G) (ci := 5) (v := .long (gM_top zM)) (C := RX7) (T := TX7) (N := 13) hx hb hts fin_X7 hown hK.1 hP 0 rfl rfl 11 (by decide) (hts _ wi_682) (fun _ h9 => h9) rfl dX7_integrateOther_12 ?_
      refine lv_lconst (v := (0 : Int64)) hx hb dX7_integrateOther_15 (by decide) ?_
      refine W.lcmp hx hb dX7_integrateOther_16 ?_
      refine lv_if_eq (tgt := 102) hx hb dX7_integrateOther_17 (by decide) (fun c_2 => ?_) (fun c_2 => ?_)
      · rw [if_pos ((lg_cmp_eq _ _).mp c_2)] at hf
        exact b_X7_integrateOther_102 qM   C0  fuel zM x2 x3 x4 x5 H locs ls hP hD hS (lv_sub hl [0, 1, 2, 3, 4] rfl) hf
      · rw [if_neg (fun h => c_2 ((lg_cmp_eq _ _).mpr h))] at hf
        refine lv_aload_n hx hb dX7_integrateOther_20 rfl (lv_at hl 0 rfl) ?_
        refine lv_iload hx hb dX7_integrateOther_21 (lv_at hl 3 rfl) ?_
        refine lv_iconst (v := 2) hx hb dX7_integrateOther_23 (by decide) ?_
        refine lv_icmp_ne (tgt := 31) hx hb dX7_integrateOther_24 (by decide) (fun c_3 => ?_) (fun c_3 => ?_)
        · rw [if_pos (c_3)] at hf
          refine lv_bipush (v := (7 : Int32)) hx hb dX7_integrateOther_31 (by decide) ?_
          refine lv_iload hx hb dX7_integrateOther_33 (lv_at hl 3 rfl) ?_
          refine lv_isub hx hb dX7_integrateOther_35 ?_
          exact b_X7_integrateOther_36 qM   C0 (fun zM_ x2_ x3_ x4_ x5_ => f_X7_integrateOther_6  fu zM_ x2_ x3_ x4_ x5_) ih zM x2 x3 x4 x5 ((7 : Int32) - x4) H locs ls hP hD hS (lv_sub hl [0, 1, 2, 3, 4] rfl) hf
        · rw [if_neg (not_not_intro c_3)] at hf
          refine lv_iconst (v := 2) hx hb dX7_integrateOther_27 (by decide) ?_
          refine lv_goto (tgt := 36) hx hb dX7_integrateOther_28 (by decide) ?_
          exact b_X7_integrateOther_36 qM   C0 (fun zM_ x2_ x3_ x4_ x5_ => f_X7_integrateOther_6  fu zM_ x2_ x3_ x4_ x5_) ih zM x2 x3 x4 x5 (2 : Int32) H locs ls hP hD hS (lv_sub hl [0, 1, 2, 3, 4] rfl) hf
def f_X7_integrateOther (zM : MdS) (a1 : Int32) (a2 : Int32) (a3 : Int32) : Option (MdS) := f_X7_integrateOther_6 fuel zM a2 a3 a1 a3
set_option maxHeartbeats 4000000 in
set_option maxRecDepth 100000 in
theorem b_X7_integrateOther_0 {p : Program} {l : Launch} {e : Env} {s : State} {m : MethodId} {args : Array Value} {below : List Frame} {meth : Method} {c : Code} {G : va_G} {cA : Nat → ClassId} {W9 : va_W} (qM : Nat → Nat) (C0 : Amb p s m args meth c cX7_integrateOther RX7 6 none G cA (adr W9) []) {res : MdS} : ∀ (zM : MdS) (a1 : Int32) (a2 : Int32) (a3 : Int32) (H : Heap) (locs : List Loc) (ls : Array Slot), va_P G vwCl ((wMd cA qM zM)) H → va_D (adr W9) ((wMd cA qM zM)) → va_S (adr W9) s.heap H locs → lv_has ls 6 [(0, .ref (qM 0)), (1, .int a1), (2, .int a2), (3, .int a3)] → f_X7_integrateOther zM a1 a2 a3 = some res → W p l e rm_X7_integrateOther s m args below meth c H locs 0 0 (MQ below (qWv G W9 ((wMd cA qM res))) args s 0 0 (adr W9)) (F0 m 0 ls []) := by
  obtain ⟨hx, hb, hr, hml, hown, hts, hlocks, hK, hR, hRA⟩ := id C0
  intro zM a1 a2 a3 H locs ls hP hD hS hl hf
  unfold f_X7_integrateOther at hf
  refine lv_iload_n hx hb dX7_integrateOther_0 rfl (lv_at hl 1 rfl) ?_
  refine lv_istore (lv' := [(4, .int a1), (0, .ref (qM 0)), (1, .int a1), (2, .int a2), (3, .int a3)]) hx hb dX7_integrateOther_1 hl (by decide) rfl (fun ls hl => ?_)
  refine lv_iload_n hx hb dX7_integrateOther_3 rfl (lv_at hl 4 rfl) ?_
  refine lv_istore (lv' := [(5, .int a3), (4, .int a1), (0, .ref (qM 0)), (1, .int a1), (2, .int a2), (3, .int a3)]) hx hb dX7_integrateOther_4 hl (by decide) rfl (fun ls hl => ?_)
  exact b_X7_integrateOther_6 qM   C0  fuel zM a2 a3 a1 a3 H locs ls hP hD hS (lv_sub hl [2, 4, 5, 1, 0] rfl) hf

set_option maxRecDepth 100000 in
theorem m_X7_integrateOther (l : Launch) (G : va_G) (cA : Nat → ClassId) (qM : Nat → Nat) (zM : MdS) (a1 : Int32) (a2 : Int32) (a3 : Int32) (res : MdS) (hf : f_X7_integrateOther zM a1 a2 a3 = some res) : MWv l yX7_integrateOther (.code yX7_integrateOther cX7_integrateOther 6 none :: wd) rm_X7_integrateOther G cA [.ref (qM 0), .int a1, .int a2, .int a3] ((wMd cA qM zM)) [] ((wMd cA qM res)) := by
  refine Met.ofW (cc := cX7_integrateOther) (maxL := 6) (ret := none) (by decide) rfl ?_
  intro p e s m args below meth c s₁ B hml hv
  obtain ⟨rfl, hK, hP, hD0, hR, hRA⟩ := hv
  have C0 : Amb p s m ([.ref (qM 0), .int a1, .int a2, .int a3] : List Value).toArray meth c cX7_integrateOther RX7 6 none G cA (adr ((wMd cA qM zM))) [] := ⟨B.exec, B.bytes, B.returns, hml, findClass_of_methodNamed B.named, fun w h => atoms_spec (ws := (.code yX7_integrateOther cX7_integrateOther 6 none :: wd)) B.pre w (List.mem_cons_of_mem _ h), B.notSynchronized, hK, hR, hRA⟩
  have hl := lv_entry ([.ref (qM 0), .int a1, .int a2, .int a3]) (n := 6) (Nat.le_of_ble_eq_true rfl)
  rw [lg_entry_eq]
  generalize (lg_sl ([.ref (qM 0), .int a1, .int a2, .int a3]) ++ List.replicate (6 - (lg_sl ([.ref (qM 0), .int a1, .int a2, .int a3])).length) Slot.unset).toArray = ls at hl ⊢
  have hl : lv_has ls 6 [(0, .ref (qM 0)), (1, .int a1), (2, .int a2), (3, .int a3)] := hl
  exact b_X7_integrateOther_0 (W9 := ((wMd cA qM zM))) qM   C0 zM a1 a2 a3 s.heap [] ls hP (adr.self hD0) va_S.rf hl hf
theorem cw_X7_integrateOther {R : Room} {s : State} {args : Array Value} {own : String} {index : Nat} (ht : ∀ w ∈ wd, w.before args s = true) (hlink : Cond.methodLink own index yX7_integrateOther ∈ wd) (hR : rm_X7_integrateOther.frames + 1 ≤ R.frames ∧ 8 + (6 + 11) + rm_X7_integrateOther.locals ≤ R.locals) : CallW R s args own RX7 index yX7_integrateOther cX7_integrateOther 6 none (.code yX7_integrateOther cX7_integrateOther 6 none :: wd) rm_X7_integrateOther 0 0 3 := cwV9 3 ht wi_889 wi_888 wi_53 wi_60 hlink (by decide +kernel) rfl rfl hR
def rm_X7_integrate : Room := { frames := 4, cells := 0, slots := 0, locals := 124 }
def f_X7_integrate_187 (kb_79 : MdS → Int32 → Int32 → Int32 → Int32 → Option (Int32 × MdS)) (zM : MdS) (x1 : Int32) (x2 : Int32) (x3 : Int32) (x5 : Int32) : Option (Int32 × MdS) := kb_79 zM x1 x2 x3 (x5 + 1)
set_option maxHeartbeats 4000000 in
set_option maxRecDepth 100000 in
theorem b_X7_integrate_187 {p : Program} {l : Launch} {e : Env} {s : State} {m : MethodId} {args : Array Value} {below : List Frame} {meth : Method} {c : Code} {G : va_G} {cA : Nat → ClassId} {W9 : va_W} (qM : Nat → Nat) (C0 : Amb p s m args meth c cX7_integrate RX7 8 (some .int) G cA (adr W9) []) {res : Int32 × MdS} (kb_79 : MdS → Int32 → Int32 → Int32 → Int32 → Option (Int32 × MdS)) (hkb_79 : ∀ (zM : MdS) (x1 : Int32) (x2 : Int32) (x3 : Int32) (x5 : Int32) (H : Heap) (locs : List Loc) (ls : Array Slot), va_P G vwCl ((wMd cA qM zM)) H → va_D (adr W9) ((wMd cA qM zM)) → va_S (adr W9) s.heap H locs → lv_has ls 8 [(0, .ref (qM 0)), (1, .int x1), (2, .int x2), (3, .int x3), (5, .int x5)] → kb_79 zM x1 x2 x3 x5 = some res → W p l e rm_X7_integrate s m args below meth c H locs 0 0 (MQ below (qWi G W9 ((wMd cA qM res.2)) res.1) args s 0 0 (adr W9)) (F0 m 79 ls [])) : ∀ (zM : MdS) (x1 : Int32) (x2 : Int32) (x3 : Int32) (x5 : Int32) (H : Heap) (locs : List Loc) (ls : Array Slot), va_P G vwCl ((wMd cA qM zM)) H → va_D (adr W9) ((wMd cA qM zM)) → va_S (adr W9) s.heap H locs → lv_has ls 8 [(0, .ref (qM 0)), (1, .int x1), (2, .int x2), (3, .int x3), (5, .int x5)] → f_X7_integrate_187 kb_79 zM x1 x2 x3 x5 = some res → W p l e rm_X7_integrate s m args below meth c H locs 0 0 (MQ below (qWi G W9 ((wMd cA qM res.2)) res.1) args s 0 0 (adr W9)) (F0 m 187 ls []) := by
  obtain ⟨hx, hb, hr, hml, hown, hts, hlocks, hK, hR, hRA⟩ := id C0
  intro zM x1 x2 x3 x5 H locs ls hP hD hS hl hf
  unfold f_X7_integrate_187 at hf
  refine lv_iinc (v := (x5 + 1)) (lv' := [(5, .int (x5 + 1)), (0, .ref (qM 0)), (1, .int x1), (2, .int x2), (3, .int x3)]) hx hb dX7_integrate_187 hl (k := 4) rfl rfl (by decide) rfl (fun ls hl => ?_)
  refine lv_goto (tgt := 79) hx hb dX7_integrate_190 (by decide) ?_
  exact hkb_79 zM x1 x2 x3 (x5 + 1) H locs ls hP hD hS (lv_sub hl [1, 2, 3, 4, 0] rfl) hf
def f_X7_integrate_79  : Nat → MdS → Int32 → Int32 → Int32 → Int32 → Option (Int32 × MdS)
  | 0, _, _, _, _, _ => none
  | fu + 1, zM, x1, x2, x3, x5 => if (1150 : Int32) ≤ x5 then (f_X7_fits zM (8 : Int32)).bind fun r_2 => if r_2 = 0 then some ((-4 : Int32), zM) else (f_X7_fits zM (9 : Int32)).bind fun r_4 => if ¬ r_4 = 0 then (f_X7_copy zM x1 (8 : Int32)).bind fun r_6 => (f_X7_copy r_6 x2 (9 : Int32)).bind fun r_7 => (f_X7_termsOf r_7 (9 : Int32)).bind fun r_8 => some (r_8, r_7) else some ((-4 : Int32), zM) else if inb (((1150 : Int32) * x3) + x5) 11500 = true then if inb (((1150 : Int32) * x3) + x5) 11500 = true then if ¬ (gM_top (uM_bottom (uM_top zM (gM_up zM (((1150 : Int32) * x3) + x5).toNatClampNeg)) (gM_down (uM_top zM (gM_up zM (((1150 : Int32) * x3) + x5).toNatClampNeg)) (((1150 : Int32) * x3) + x5).toNatClampNeg))) = (0 : Int64) then (some ((x5 / (25 : Int32)))).bind fun y_12 => (some (((x5 - x5 / (25 : Int32) * (25 : Int32)) - (12 : Int32)))).bind fun y_13 => if (10 : Int32) ≤ y_12 then (f_X7_kindOf y_12).bind fun r_15 => (f_X7_countOf y_12).bind fun r_16 => (f_X7_integrateOther (uM_bottom (uM_top zM (gM_up zM (((1150 : Int32) * x3) + x5).toNatClampNeg)) (gM_down (uM_top zM (gM_up zM (((1150 : Int32) * x3) + x5).toNatClampNeg)) (((1150 : Int32) * x3) + x5).toNatClampNeg)) r_15 r_16 y_13).bind fun r_17 => f_X7_integrate_187 (fun zM_ x1_ x2_ x3_ x5_ => f_X7_integrate_79  fu zM_ x1_ x2_ x3_ x5_) r_17 x1 x2 x3 x5 else (f_X7_countOf y_12).bind fun r_18 => (f_X7_integrateLog (uM_bottom (uM_top zM (gM_up zM (((1150 : Int32) * x3) + x5).toNatClampNeg)) (gM_down (uM_top zM (gM_up zM (((1150 : Int32) * x3) + x5).toNatClampNeg)) (((1150 : Int32) * x3) + x5).toNatClampNeg)) r_18 y_13).bind fun r_19 => f_X7_integrate_187 (fun zM_ x1_ x2_ x3_ x5_ => f_X7_integrate_79  fu zM_ x1_ x2_ x3_ x5_) r_19 x1 x2 x3 x5 else f_X7_integrate_187 (fun zM_ x1_ x2_ x3_ x5_ => f_X7_integrate_79  fu zM_ x1_ x2_ x3_ x5_) (uM_bottom (uM_top zM (gM_up zM (((1150 : Int32) * x3) + x5).toNatClampNeg)) (gM_down (uM_top zM (gM_up zM (((1150 : Int32) * x3) + x5).toNatClampNeg)) (((1150 : Int32) * x3) + x5).toNatClampNeg)) x1 x2 x3 x5 else none else none
set_option maxHeartbeats 4000000 in
set_option maxRecDepth 100000 in
theorem b_X7_integrate_79 {p : Program} {l : Launch} {e : Env} {s : State} {m : MethodId} {args : Array Value} {below : List Frame} {meth : Method} {c : Code} {G : va_G} {cA : Nat → ClassId} {W9 : va_W} (qM : Nat → Nat) (C0 : Amb p s m args meth c cX7_integrate RX7 8 (some .int) G cA (adr W9) []) {res : Int32 × MdS} : ∀ (fu : Nat) (zM : MdS) (x1 : Int32) (x2 : Int32) (x3 : Int32) (x5 : Int32) (H : Heap) (locs : List Loc) (ls : Array Slot), va_P G vwCl ((wMd cA qM zM)) H → va_D (adr W9) ((wMd cA qM zM)) → va_S (adr W9) s.heap H locs → lv_has ls 8 [(0, .ref (qM 0)), (1, .int x1), (2, .int x2), (3, .int x3), (5, .int x5)] → f_X7_integrate_79 fu zM x1 x2 x3 x5 = some res → W p l e rm_X7_integrate s m args below meth c H locs 0 0 (MQ below (qWi G W9 ((wMd cA qM res.2)) res.1) args s 0 0 (adr W9)) (F0 m 79 ls []) := by
  obtain ⟨hx, hb, hr, hml, hown, hts, hlocks, hK, hR, hRA⟩ := id C0
  intro fu
  induction fu with
  | zero =>
    intro zM x1 x2 x3 x5 H locs ls hP hD hS hl hf
    rw [f_X7_integrate_79] at hf
    cases hf
  | succ fu ih =>
    intro zM x1 x2 x3 x5 H locs ls hP hD hS hl hf
    rw [f_X7_integrate_79] at hf
    refine lv_iload hx hb dX7_integrate_79 (lv_at hl 4 rfl) ?_
    refine lv_sipush (v := (1150 : Int32)) hx hb dX7_integrate_81 (by decide) ?_
    refine lv_icmp_ge (tgt := 193) hx hb dX7_integrate_84 (by decide) (fun c_1 => ?_) (fun c_1 => ?_)
    · rw [if_pos (c_1)] at hf
      refine lv_aload_n hx hb dX7_integrate_193 rfl (lv_at hl 0 rfl) ?_
      refine lv_bipush (v := (8 : Int32)) hx hb dX7_integrate_194 (by decide) ?_
      obtain ⟨r_2, hr_2, hf⟩ := obd hf
      refine cRiV (As := [.int (8 : Int32)]) (rest := []) ⟨hx, hb, hml, hown, hts⟩ (m_X7_fits l G cA qM zM (8 : Int32) r_2 hr_2) (cw_X7_fits hts wi_794 ⟨Nat.le_of_ble_eq_true rfl, Nat.le_of_ble_eq_true rfl⟩) hK (pk hP [0, 1, 2, 3, 4] rfl) (va_recv hK.1 hP (ci := 5) (q0 := 0) rfl rfl) rfl hl.1 rfl (Nat.le_of_ble_eq_true rfl) dX7_integrate_196 ⟨Nat.zero_le _, Nat.zero_le _⟩ ?_
      refine lv_if_eq (tgt := 211) hx hb dX7_integrate_199 (by decide) (fun c_3 => ?_) (fun c_3 => ?_)
      · rw [if_pos (c_3)] at hf
        refine lv_bipush (v := (-4 : Int32)) hx hb dX7_integrate_211 (by decide) ?_
        cases hf
        exact W.iret hx hb hr (fun t ht hW => ⟨⟨_, (), rfl, rfl, toT ht hP⟩, hS.F ht⟩) hS.2.2 dX7_integrate_213 hlocks
      · rw [if_neg (c_3)] at hf
        refine lv_aload_n hx hb dX7_integrate_202 rfl (lv_at hl 0 rfl) ?_
        refine lv_bipush (v := (9 : Int32)) hx hb dX7_integrate_203 (by decide) ?_
        obtain ⟨r_4, hr_4, hf⟩ := obd hf
        refine cRiV (As := [.int (9 : Int32)]) (rest := []) ⟨hx, hb, hml, hown, hts⟩ (m_X7_fits l G cA qM zM (9 : Int32) r_4 hr_4) (cw_X7_fits hts wi_794 ⟨Nat.le_of_ble_eq_true rfl, Nat.le_of_ble_eq_true rfl⟩) hK (pk hP [0, 1, 2, 3, 4] rfl) (va_recv hK.1 hP (ci := 5) (q0 := 0) rfl rfl) rfl hl.1 rfl (Nat.le_of_ble_eq_true rfl) dX7_integrate_205 ⟨Nat.zero_le _, Nat.zero_le _⟩ ?_
        refine lv_if_ne (tgt := 214) hx hb dX7_integrate_208 (by decide) (fun c_5 => ?_) (fun c_5 => ?_)
        · rw [if_pos (c_5)] at hf
          refine lv_aload_n hx hb dX7_integrate_214 rfl (lv_at hl 0 rfl) ?_
          refine lv_iload_n hx hb dX7_integrate_215 rfl (lv_at hl 1 rfl) ?_
          refine lv_bipush (v := (8 : Int32)) hx hb dX7_integrate_216 (by decide) ?_
          obtain ⟨r_6, hr_6, hf⟩ := obd hf
          refine cWvV (As := [.int x1, .int (8 : Int32)]) (rest := []) (W1 := ((wMd cA qM r_6))) ⟨hx, hb, hml, hown, hts⟩ (m_X7_copy l G cA qM zM x1 (8 : Int32) r_6 hr_6) (cw_X7_copy hts wi_802 ⟨Nat.le_of_ble_eq_true rfl, Nat.le_of_ble_eq_true rfl⟩) hK hP hD hS [0, 1, 2, 3, 4] [5, 6, 7, 8, 9] rfl rfl rfl (by decide) rfl va_Pnil dj_nil (va_recv hK.1 hP (ci := 5) (q0 := 0) rfl rfl) rfl hl.1 rfl (Nat.le_of_ble_eq_true rfl) dX7_integrate_218 ⟨Nat.zero_le _, Nat.zero_le _⟩ (fun H locs hP hD hS => ?_)
          refine lv_aload_n hx hb dX7_integrate_221 rfl (lv_at hl 0 rfl) ?_
          refine lv_iload_n hx hb dX7_integrate_222 rfl (lv_at hl 2 rfl) ?_
          refine lv_bipush (v := (9 : Int32)) hx hb dX7_integrate_223 (by decide) ?_
          obtain ⟨r_7, hr_7, hf⟩ := obd hf
          refine cWvV (As := [.int x2, .int (9 : Int32)]) (rest := []) (W1 := ((wMd cA qM r_7))) ⟨hx, hb, hml, hown, hts⟩ (m_X7_copy l G cA qM r_6 x2 (9 : Int32) r_7 hr_7) (cw_X7_copy hts wi_802 ⟨Nat.le_of_ble_eq_true rfl, Nat.le_of_ble_eq_true rfl⟩) hK hP hD hS [0, 1, 2, 3, 4] [5, 6, 7, 8, 9] rfl rfl rfl (by decide) rfl va_Pnil dj_nil (va_recv hK.1 hP (ci := 5) (q0 := 0) rfl rfl) rfl hl.1 rfl (Nat.le_of_ble_eq_true rfl) dX7_integrate_225 ⟨Nat.zero_le _, Nat.zero_le _⟩ (fun H locs hP hD hS => ?_)
          refine lv_aload_n hx hb dX7_integrate_228 rfl (lv_at hl 0 rfl) ?_
          refine lv_bipush (v := (9 : Int32)) hx hb dX7_integrate_229 (by decide) ?_
          obtain ⟨r_8, hr_8, hf⟩ := obd hf
          refine cRiV (As := [.int (9 : Int32)]) (rest := []) ⟨hx, hb, hml, hown, hts⟩ (m_X7_termsOf l G cA qM r_7 (9 : Int32) r_8 hr_8) (cw_X7_termsOf hts wi_798 ⟨Nat.le_of_ble_eq_true rfl, Nat.le_of_ble_eq_true rfl⟩) hK (pk hP [0, 1, 2, 3, 4] rfl) (va_recv hK.1 hP (ci := 5) (q0 := 0) rfl rfl) rfl hl.1 rfl (Nat.le_of_ble_eq_true rfl) dX7_integrate_231 ⟨Nat.zero_le _, Nat.zero_le _⟩ ?_
          cases hf
          exact W.iret hx hb hr (fun t ht hW => ⟨⟨_, (), rfl, rfl, toT ht hP⟩, hS.F ht⟩) hS.2.2 dX7_integrate_234 hlocks
        · rw [if_neg (not_not_intro c_5)] at hf
          refine lv_bipush (v := (-4 : Int32)) hx hb dX7_integrate_211 (by decide) ?_
          cases hf
          exact W.iret hx hb hr (fun t ht hW => ⟨⟨_, (), rfl, rfl, toT ht hP⟩, hS.F ht⟩) hS.2.2 dX7_integrate_213 hlocks
    · rw [if_neg (c_1)] at hf
      refine lv_aload_n hx hb dX7_integrate_87 rfl (lv_at hl 0 rfl) ?_
      refine lv_aload_n hx hb dX7_integrate_88 rfl (lv_at hl 0 rfl) ?_
      refine va_get (D := G) (ci := 5) (v := .ref (qM 3)) (C := RX7) (T := TX7) (N := 13) hx hb hts fin_X7 hown hK.1 hP 0 rfl rfl 6 (by decide) (hts _ wi_677) (fun _ h9 => h9) rfl dX7_integrate_89 ?_
      refine lv_sipush (v := (1150 : Int32)) hx hb dX7_integrate_92 (by decide) ?_
      refine lv_iload_n hx hb dX7_integrate_95 rfl (lv_at hl 3 rfl) ?_
      refine lv_imul hx hb dX7_integrate_96 ?_
      refine lv_iload hx hb dX7_integrate_97 (lv_at hl 4 rfl) ?_
      refine lv_iadd hx hb dX7_integrate_99 ?_
      obtain ⟨hi_9, hf⟩ := oif hf
      refine va_lald hx hb hK.1 hP 3 1 rfl rfl (inb_in hi_9) dX7_integrate_100 ?_
      refine va_put (D := G) (ci := 5) (v := .long (gM_up zM (((1150 : Int32) * x3) + x5).toNatClampNeg)) (ty := .long) (C := RX7) (T := TX7) (N := 13) hx hb hts fin_X7 tyX7 tyX7_ok nmX7 hown hK.1 hP hD hS 0 rfl rfl 11 (by decide) (hts _ wi_682) (fun _ h9 => h9) rfl (by decide +kernel) rfl rfl (Nat.le_of_ble_eq_true rfl) dX7_integrate_101 (fun H locs hP hD hS => ?_)
      have hP : va_P G vwCl ((wMd cA qM (uM_top zM (gM_up zM (((1150 : Int32) * x3) + x5).toNatClampNeg)))) H := hP
      have hD : va_D (adr W9) ((wMd cA qM (uM_top zM (gM_up zM (((1150 : Int32) * x3) + x5).toNatClampNeg)))) := hD
      refine lv_aload_n hx hb dX7_integrate_104 rfl (lv_at hl 0 rfl) ?_
      refine lv_aload_n hx hb dX7_integrate_105 rfl (lv_at hl 0 rfl) ?_
      refine va_get (D := G) (ci := 5) (v := .ref (qM 4)) (C := RX7) (T := TX7) (N := 13) hx hb hts fin_X7 hown hK.1 hP 0 rfl rfl 7 (by decide) (hts _ wi_678) (fun _ h9 => h9) rfl dX7_integrate_106 ?_
      refine lv_sipush (v := (1150 : Int32)) hx hb dX7_integrate_109 (by decide) ?_
      refine lv_iload_n hx hb dX7_integrate_112 rfl (lv_at hl 3 rfl) ?_
      refine lv_imul hx hb dX7_integrate_113 ?_
      refine lv_iload hx hb dX7_integrate_114 (lv_at hl 4 rfl) ?_
      refine lv_iadd hx hb dX7_integrate_116 ?_
      obtain ⟨hi_10, hf⟩ := oif hf
      refine va_lald hx hb hK.1 hP 4 1 rfl rfl (inb_in hi_10) dX7_integrate_117 ?_
      refine va_put (D := G) (ci := 5) (v := .long (gM_down (uM_top zM (gM_up zM (((1150 : Int32) * x3) + x5).toNatClampNeg)) (((1150 : Int32) * x3) + x5).toNatClampNeg)) (ty := .long) (C := RX7) (T := TX7) (N := 13) hx hb hts fin_X7 tyX7 tyX7_ok nmX7 hown hK.1 hP hD hS 0 rfl rfl 12 (by decide) (hts _ wi_683) (fun _ h9 => h9) rfl (by decide +kernel) rfl rfl (Nat.le_of_ble_eq_true rfl) dX7_integrate_118 (fun H locs hP hD hS => ?_)
      have hP : va_P G vwCl ((wMd cA qM (uM_bottom (uM_top zM (gM_up zM (((1150 : Int32) * x3) + x5).toNatClampNeg)) (gM_down (uM_top zM (gM_up zM (((1150 : Int32) * x3) + x5).toNatClampNeg)) (((1150 : Int32) * x3) + x5).toNatClampNeg)))) H := hP
      have hD : va_D (adr W9) ((wMd cA qM (uM_bottom (uM_top zM (gM_up zM (((1150 : Int32) * x3) + x5).toNatClampNeg)) (gM_down (uM_top zM (gM_up zM (((1150 : Int32) * x3) + x5).toNatClampNeg)) (((1150 : Int32) * x3) + x5).toNatClampNeg)))) := hD
      refine lv_aload_n hx hb dX7_integrate_121 rfl (lv_at hl 0 rfl) ?_
      refine va_get (D := G) (ci := 5) (v := .long (gM_top (uM_bottom (uM_top zM (gM_up zM (((1150 : Int32) * x3) + x5).toNatClampNeg)) (gM_down (uM_top zM (gM_up zM (((1150 : Int32) * x3) + x5).toNatClampNeg)) (((1150 : Int32) * x3) + x5).toNatClampNeg)))) (C := RX7) (T := TX7) (N := 13) hx hb hts fin_X7 hown hK.1 hP 0 rfl rfl 11 (by decide) (hts _ wi_682) (fun _ h9 => h9) rfl dX7_integrate_122 ?_
      refine lv_lconst (v := (0 : Int64)) hx hb dX7_integrate_125 (by decide) ?_
      refine W.lcmp hx hb dX7_integrate_126 ?_
      refine lv_if_ne (tgt := 133) hx hb dX7_integrate_127 (by decide) (fun c_11 => ?_) (fun c_11 => ?_)
      · rw [if_pos (fun h => c_11 ((lg_cmp_eq _ _).mpr h))] at hf
        refine lv_iload hx hb dX7_integrate_133 (lv_at hl 4 rfl) ?_
        refine lv_bipush (v := (25 : Int32)) hx hb dX7_integrate_135 (by decide) ?_
        refine lv_idiv hx hb dX7_integrate_137 (by decide) ?_
        obtain ⟨y_12, hq, hf⟩ := obd hf
        have hy_12 : (x5 / (25 : Int32)) = y_12 := Option.some.inj hq
        rw [hy_12]
        refine lv_istore (lv' := [(6, .int y_12), (0, .ref (qM 0)), (1, .int x1), (2, .int x2), (3, .int x3), (5, .int x5)]) hx hb dX7_integrate_138 hl (by decide) rfl (fun ls hl => ?_)
        refine lv_iload hx hb dX7_integrate_140 (lv_at hl 5 rfl) ?_
        refine lv_bipush (v := (25 : Int32)) hx hb dX7_integrate_142 (by decide) ?_
        refine lv_irem hx hb dX7_integrate_144 (by decide) ?_
        refine lv_bipush (v := (12 : Int32)) hx hb dX7_integrate_145 (by decide) ?_
        refine lv_isub hx hb dX7_integrate_147 ?_
        obtain ⟨y_13, hq, hf⟩ := obd hf
        have hy_13 : ((x5 - x5 / (25 : Int32) * (25 : Int32)) - (12 : Int32)) = y_13 := Option.some.inj hq
        rw [hy_13]
        refine lv_istore (lv' := [(7, .int y_13), (6, .int y_12), (0, .ref (qM 0)), (1, .int x1), (2, .int x2), (3, .int x3), (5, .int x5)]) hx hb dX7_integrate_148 hl (by decide) rfl (fun ls hl => ?_)
        refine lv_iload hx hb dX7_integrate_150 (lv_at hl 1 rfl) ?_
        refine lv_bipush (v := (10 : Int32)) hx hb dX7_integrate_152 (by decide) ?_
        refine lv_icmp_ge (tgt := 171) hx hb dX7_integrate_154 (by decide) (fun c_14 => ?_) (fun c_14 => ?_)
        · rw [if_pos (c_14)] at hf
          refine lv_aload_n hx hb dX7_integrate_171 rfl (lv_at hl 2 rfl) ?_
          refine lv_iload hx hb dX7_integrate_172 (lv_at hl 1 rfl) ?_
          obtain ⟨r_15, hr_15, hf⟩ := obd hf
          refine cRiS (As := [.int y_12]) (rest := [.ref (qM 0)]) ⟨hx, hb, hml, hown, hts⟩ (m_X7_kindOf l G cA y_12 r_15 hr_15) (cw_X7_kindOf hts wi_833 ⟨Nat.le_of_ble_eq_true rfl, Nat.le_of_ble_eq_true rfl⟩) hK va_Pnil rfl hl.1 rfl (Nat.le_of_ble_eq_true rfl) dX7_integrate_174 ⟨Nat.zero_le _, Nat.zero_le _⟩ ?_
          refine lv_iload hx hb dX7_integrate_177 (lv_at hl 1 rfl) ?_
          obtain ⟨r_16, hr_16, hf⟩ := obd hf
          refine cRiS (As := [.int y_12]) (rest := [.int r_15, .ref (qM 0)]) ⟨hx, hb, hml, hown, hts⟩ (m_X7_countOf l G cA y_12 r_16 hr_16) (cw_X7_countOf hts wi_836 ⟨Nat.le_of_ble_eq_true rfl, Nat.le_of_ble_eq_true rfl⟩) hK va_Pnil rfl hl.1 rfl (Nat.le_of_ble_eq_true rfl) dX7_integrate_179 ⟨Nat.zero_le _, Nat.zero_le _⟩ ?_
          refine lv_iload hx hb dX7_integrate_182 (lv_at hl 0 rfl) ?_
          obtain ⟨r_17, hr_17, hf⟩ := obd hf
          refine cWvV (As := [.int r_15, .int r_16, .int y_13]) (rest := []) (W1 := ((wMd cA qM r_17))) ⟨hx, hb, hml, hown, hts⟩ (m_X7_integrateOther l G cA qM (uM_bottom (uM_top zM (gM_up zM (((1150 : Int32) * x3) + x5).toNatClampNeg)) (gM_down (uM_top zM (gM_up zM (((1150 : Int32) * x3) + x5).toNatClampNeg)) (((1150 : Int32) * x3) + x5).toNatClampNeg)) r_15 r_16 y_13 r_17 hr_17) (cw_X7_integrateOther hts wi_886 ⟨Nat.le_of_ble_eq_true rfl, Nat.le_of_ble_eq_true rfl⟩) hK hP hD hS [0, 1, 2, 3, 4] [5, 6, 7, 8, 9] rfl rfl rfl (by decide) rfl va_Pnil dj_nil (va_recv hK.1 hP (ci := 5) (q0 := 0) rfl rfl) rfl hl.1 rfl (Nat.le_of_ble_eq_true rfl) dX7_integrate_184 ⟨Nat.zero_le _, Nat.zero_le _⟩ (fun H locs hP hD hS => ?_)
          exact b_X7_integrate_187 qM   C0 (fun zM_ x1_ x2_ x3_ x5_ => f_X7_integrate_79  fu zM_ x1_ x2_ x3_ x5_) ih r_17 x1 x2 x3 x5 H locs ls hP hD hS (lv_sub hl [2, 3, 4, 5, 6] rfl) hf
        · rw [if_neg (c_14)] at hf
          refine lv_aload_n hx hb dX7_integrate_157 rfl (lv_at hl 2 rfl) ?_
          refine lv_iload hx hb dX7_integrate_158 (lv_at hl 1 rfl) ?_
          obtain ⟨r_18, hr_18, hf⟩ := obd hf
          refine cRiS (As := [.int y_12]) (rest := [.ref (qM 0)]) ⟨hx, hb, hml, hown, hts⟩ (m_X7_countOf l G cA y_12 r_18 hr_18) (cw_X7_countOf hts wi_836 ⟨Nat.le_of_ble_eq_true rfl, Nat.le_of_ble_eq_true rfl⟩) hK va_Pnil rfl hl.1 rfl (Nat.le_of_ble_eq_true rfl) dX7_integrate_160 ⟨Nat.zero_le _, Nat.zero_le _⟩ ?_
          refine lv_iload hx hb dX7_integrate_163 (lv_at hl 0 rfl) ?_
          obtain ⟨r_19, hr_19, hf⟩ := obd hf
          refine cWvV (As := [.int r_18, .int y_13]) (rest := []) (W1 := ((wMd cA qM r_19))) ⟨hx, hb, hml, hown, hts⟩ (m_X7_integrateLog l G cA qM (uM_bottom (uM_top zM (gM_up zM (((1150 : Int32) * x3) + x5).toNatClampNeg)) (gM_down (uM_top zM (gM_up zM (((1150 : Int32) * x3) + x5).toNatClampNeg)) (((1150 : Int32) * x3) + x5).toNatClampNeg)) r_18 y_13 r_19 hr_19) (cw_X7_integrateLog hts wi_874 ⟨Nat.le_of_ble_eq_true rfl, Nat.le_of_ble_eq_true rfl⟩) hK hP hD hS [0, 1, 2, 3, 4] [5, 6, 7, 8, 9] rfl rfl rfl (by decide) rfl va_Pnil dj_nil (va_recv hK.1 hP (ci := 5) (q0 := 0) rfl rfl) rfl hl.1 rfl (Nat.le_of_ble_eq_true rfl) dX7_integrate_165 ⟨Nat.zero_le _, Nat.zero_le _⟩ (fun H locs hP hD hS => ?_)
          refine lv_goto (tgt := 187) hx hb dX7_integrate_168 (by decide) ?_
          exact b_X7_integrate_187 qM   C0 (fun zM_ x1_ x2_ x3_ x5_ => f_X7_integrate_79  fu zM_ x1_ x2_ x3_ x5_) ih r_19 x1 x2 x3 x5 H locs ls hP hD hS (lv_sub hl [2, 3, 4, 5, 6] rfl) hf
      · rw [if_neg (fun h => h ((lg_cmp_eq _ _).mp c_11))] at hf
        refine lv_goto (tgt := 187) hx hb dX7_integrate_130 (by decide) ?_
        exact b_X7_integrate_187 qM   C0 (fun zM_ x1_ x2_ x3_ x5_ => f_X7_integrate_79  fu zM_ x1_ x2_ x3_ x5_) ih (uM_bottom (uM_top zM (gM_up zM (((1150 : Int32) * x3) + x5).toNatClampNeg)) (gM_down (uM_top zM (gM_up zM (((1150 : Int32) * x3) + x5).toNatClampNeg)) (((1150 : Int32) * x3) + x5).toNatClampNeg)) x1 x2 x3 x5 H locs ls hP hD hS (lv_sub hl [0, 1, 2, 3, 4] rfl) hf
def f_X7_integrate_51 (zM : MdS) (x1 : Int32) (x2 : Int32) (x3 : Int32) (v1 : Int32) : Option (Int32 × MdS) := (f_X7_refused zM v1).bind fun r_1 => if r_1.1 = 0 then (f_X7_empty (uM_isFull r_1.2 (0 : Int32)) (8 : Int32)).bind fun r_3 => (f_X7_empty r_3 (9 : Int32)).bind fun r_4 => f_X7_integrate_79 fuel r_4 x1 x2 x3 (0 : Int32) else some ((0 : Int32), r_1.2)
set_option maxHeartbeats 4000000 in
set_option maxRecDepth 100000 in
theorem b_X7_integrate_51 {p : Program} {l : Launch} {e : Env} {s : State} {m : MethodId} {args : Array Value} {below : List Frame} {meth : Method} {c : Code} {G : va_G} {cA : Nat → ClassId} {W9 : va_W} (qM : Nat → Nat) (C0 : Amb p s m args meth c cX7_integrate RX7 8 (some .int) G cA (adr W9) []) {res : Int32 × MdS} : ∀ (zM : MdS) (x1 : Int32) (x2 : Int32) (x3 : Int32) (v1 : Int32) (H : Heap) (locs : List Loc) (ls : Array Slot), va_P G vwCl ((wMd cA qM zM)) H → va_D (adr W9) ((wMd cA qM zM)) → va_S (adr W9) s.heap H locs → lv_has ls 8 [(0, .ref (qM 0)), (1, .int x1), (2, .int x2), (3, .int x3)] → f_X7_integrate_51 zM x1 x2 x3 v1 = some res → W p l e rm_X7_integrate s m args below meth c H locs 0 0 (MQ below (qWi G W9 ((wMd cA qM res.2)) res.1) args s 0 0 (adr W9)) (F0 m 51 ls [.int v1, .ref (qM 0)]) := by
  obtain ⟨hx, hb, hr, hml, hown, hts, hlocks, hK, hR, hRA⟩ := id C0
  intro zM x1 x2 x3 v1 H locs ls hP hD hS hl hf
  unfold f_X7_integrate_51 at hf
  obtain ⟨r_1, hr_1, hf⟩ := obd hf
  refine cWiV (As := [.int v1]) (rest := []) (W1 := ((wMd cA qM r_1.2))) ⟨hx, hb, hml, hown, hts⟩ (m_X7_refused l G cA qM zM v1 r_1 hr_1) (cw_X7_refused hts wi_723 ⟨Nat.le_of_ble_eq_true rfl, Nat.le_of_ble_eq_true rfl⟩) hK hP hD hS [0, 1, 2, 3, 4] [5, 6, 7, 8, 9] rfl rfl rfl (by decide) rfl va_Pnil dj_nil (va_recv hK.1 hP (ci := 5) (q0 := 0) rfl rfl) rfl hl.1 rfl (Nat.le_of_ble_eq_true rfl) dX7_integrate_51 ⟨Nat.zero_le _, Nat.zero_le _⟩ (fun H locs hP hD hS => ?_)
  refine lv_if_eq (tgt := 59) hx hb dX7_integrate_54 (by decide) (fun c_2 => ?_) (fun c_2 => ?_)
  · rw [if_pos (c_2)] at hf
    refine lv_aload_n hx hb dX7_integrate_59 rfl (lv_at hl 0 rfl) ?_
    refine lv_iconst (v := 0) hx hb dX7_integrate_60 (by decide) ?_
    refine va_put (D := G) (ci := 5) (v := .int (0 : Int32)) (ty := .boolean) (C := RX7) (T := TX7) (N := 13) hx hb hts fin_X7 tyX7 tyX7_ok nmX7 hown hK.1 hP hD hS 0 rfl rfl 8 (by decide) (hts _ wi_679) (fun _ h9 => h9) rfl (by decide +kernel) (by decide) (by decide) (Nat.le_of_ble_eq_true rfl) dX7_integrate_61 (fun H locs hP hD hS => ?_)
    have hP : va_P G vwCl ((wMd cA qM (uM_isFull r_1.2 (0 : Int32)))) H := hP
    have hD : va_D (adr W9) ((wMd cA qM (uM_isFull r_1.2 (0 : Int32)))) := hD
    refine lv_aload_n hx hb dX7_integrate_64 rfl (lv_at hl 0 rfl) ?_
    refine lv_bipush (v := (8 : Int32)) hx hb dX7_integrate_65 (by decide) ?_
    obtain ⟨r_3, hr_3, hf⟩ := obd hf
    refine cWvV (As := [.int (8 : Int32)]) (rest := []) (W1 := ((wMd cA qM r_3))) ⟨hx, hb, hml, hown, hts⟩ (m_X7_empty l G cA qM (uM_isFull r_1.2 (0 : Int32)) (8 : Int32) r_3 hr_3) (cw_X7_empty hts wi_738 ⟨Nat.le_of_ble_eq_true rfl, Nat.le_of_ble_eq_true rfl⟩) hK hP hD hS [0, 1, 2, 3, 4] [5, 6, 7, 8, 9] rfl rfl rfl (by decide) rfl va_Pnil dj_nil (va_recv hK.1 hP (ci := 5) (q0 := 0) rfl rfl) rfl hl.1 rfl (Nat.le_of_ble_eq_true rfl) dX7_integrate_67 ⟨Nat.zero_le _, Nat.zero_le _⟩ (fun H locs hP hD hS => ?_)
    refine lv_aload_n hx hb dX7_integrate_70 rfl (lv_at hl 0 rfl) ?_
    refine lv_bipush (v := (9 : Int32)) hx hb dX7_integrate_71 (by decide) ?_
    obtain ⟨r_4, hr_4, hf⟩ := obd hf
    refine cWvV (As := [.int (9 : Int32)]) (rest := []) (W1 := ((wMd cA qM r_4))) ⟨hx, hb, hml, hown, hts⟩ (m_X7_empty l G cA qM r_3 (9 : Int32) r_4 hr_4) (cw_X7_empty hts wi_738 ⟨Nat.le_of_ble_eq_true rfl, Nat.le_of_ble_eq_true rfl⟩) hK hP hD hS [0, 1, 2, 3, 4] [5, 6, 7, 8, 9] rfl rfl rfl (by decide) rfl va_Pnil dj_nil (va_recv hK.1 hP (ci := 5) (q0 := 0) rfl rfl) rfl hl.1 rfl (Nat.le_of_ble_eq_true rfl) dX7_integrate_73 ⟨Nat.zero_le _, Nat.zero_le _⟩ (fun H locs hP hD hS => ?_)
    refine lv_iconst (v := 0) hx hb dX7_integrate_76 (by decide) ?_
    refine lv_istore (lv' := [(5, .int (0 : Int32)), (0, .ref (qM 0)), (1, .int x1), (2, .int x2), (3, .int x3)]) hx hb dX7_integrate_77 hl (by decide) rfl (fun ls hl => ?_)
    exact b_X7_integrate_79 qM   C0  fuel r_4 x1 x2 x3 (0 : Int32) H locs ls hP hD hS (lv_sub hl [1, 2, 3, 4, 0] rfl) hf
  · rw [if_neg (c_2)] at hf
    refine lv_iconst (v := 0) hx hb dX7_integrate_57 (by decide) ?_
    cases hf
    exact W.iret hx hb hr (fun t ht hW => ⟨⟨_, (), rfl, rfl, toT ht hP⟩, hS.F ht⟩) hS.2.2 dX7_integrate_58 hlocks
def f_X7_integrate_26 (zM : MdS) (x1 : Int32) (x2 : Int32) (x3 : Int32) (v0 : Int32) : Option (Int32 × MdS) := if ¬ v0 = 0 then (f_X7_isSmall zM x3).bind fun r_2 => if ¬ r_2 = 0 then f_X7_integrate_51  zM x1 x2 x3 (0 : Int32) else f_X7_integrate_51  zM x1 x2 x3 (2 : Int32) else f_X7_integrate_51  zM x1 x2 x3 (1 : Int32)
set_option maxHeartbeats 4000000 in
set_option maxRecDepth 100000 in
theorem b_X7_integrate_26 {p : Program} {l : Launch} {e : Env} {s : State} {m : MethodId} {args : Array Value} {below : List Frame} {meth : Method} {c : Code} {G : va_G} {cA : Nat → ClassId} {W9 : va_W} (qM : Nat → Nat) (C0 : Amb p s m args meth c cX7_integrate RX7 8 (some .int) G cA (adr W9) []) {res : Int32 × MdS} : ∀ (zM : MdS) (x1 : Int32) (x2 : Int32) (x3 : Int32) (v0 : Int32) (H : Heap) (locs : List Loc) (ls : Array Slot), va_P G vwCl ((wMd cA qM zM)) H → va_D (adr W9) ((wMd cA qM zM)) → va_S (adr W9) s.heap H locs → lv_has ls 8 [(0, .ref (qM 0)), (1, .int x1), (2, .int x2), (3, .int x3)] → f_X7_integrate_26 zM x1 x2 x3 v0 = some res → W p l e rm_X7_integrate s m args below meth c H locs 0 0 (MQ below (qWi G W9 ((wMd cA qM res.2)) res.1) args s 0 0 (adr W9)) (F0 m 26 ls [.int v0]) := by
  obtain ⟨hx, hb, hr, hml, hown, hts, hlocks, hK, hR, hRA⟩ := id C0
  intro zM x1 x2 x3 v0 H locs ls hP hD hS hl hf
  unfold f_X7_integrate_26 at hf
  refine lv_istore (lv' := [(4, .int v0), (0, .ref (qM 0)), (1, .int x1), (2, .int x2), (3, .int x3)]) hx hb dX7_integrate_26 hl (by decide) rfl (fun ls hl => ?_)
  refine lv_aload_n hx hb dX7_integrate_28 rfl (lv_at hl 1 rfl) ?_
  refine lv_iload hx hb dX7_integrate_29 (lv_at hl 0 rfl) ?_
  refine lv_if_ne (tgt := 38) hx hb dX7_integrate_31 (by decide) (fun c_1 => ?_) (fun c_1 => ?_)
  · rw [if_pos (c_1)] at hf
    refine lv_aload_n hx hb dX7_integrate_38 rfl (lv_at hl 1 rfl) ?_
    refine lv_iload_n hx hb dX7_integrate_39 rfl (lv_at hl 4 rfl) ?_
    obtain ⟨r_2, hr_2, hf⟩ := obd hf
    refine cRiV (As := [.int x3]) (rest := [.ref (qM 0)]) ⟨hx, hb, hml, hown, hts⟩ (m_X7_isSmall l G cA qM zM x3 r_2 hr_2) (cw_X7_isSmall hts wi_847 ⟨Nat.le_of_ble_eq_true rfl, Nat.le_of_ble_eq_true rfl⟩) hK (pk hP [0, 1, 2, 3, 4] rfl) (va_recv hK.1 hP (ci := 5) (q0 := 0) rfl rfl) rfl hl.1 rfl (Nat.le_of_ble_eq_true rfl) dX7_integrate_40 ⟨Nat.zero_le _, Nat.zero_le _⟩ ?_
    refine lv_if_ne (tgt := 50) hx hb dX7_integrate_43 (by decide) (fun c_3 => ?_) (fun c_3 => ?_)
    · rw [if_pos (c_3)] at hf
      refine lv_iconst (v := 0) hx hb dX7_integrate_50 (by decide) ?_
      exact b_X7_integrate_51 qM   C0  zM x1 x2 x3 (0 : Int32) H locs ls hP hD hS (lv_sub hl [1, 2, 3, 4] rfl) hf
    · rw [if_neg (not_not_intro c_3)] at hf
      refine lv_iconst (v := 2) hx hb dX7_integrate_46 (by decide) ?_
      refine lv_goto (tgt := 51) hx hb dX7_integrate_47 (by decide) ?_
      exact b_X7_integrate_51 qM   C0  zM x1 x2 x3 (2 : Int32) H locs ls hP hD hS (lv_sub hl [1, 2, 3, 4] rfl) hf
  · rw [if_neg (not_not_intro c_1)] at hf
    refine lv_iconst (v := 1) hx hb dX7_integrate_34 (by decide) ?_
    refine lv_goto (tgt := 51) hx hb dX7_integrate_35 (by decide) ?_
    exact b_X7_integrate_51 qM   C0  zM x1 x2 x3 (1 : Int32) H locs ls hP hD hS (lv_sub hl [1, 2, 3, 4] rfl) hf
def f_X7_integrate_25 (zM : MdS) (x1 : Int32) (x2 : Int32) (x3 : Int32) : Option (Int32 × MdS) := f_X7_integrate_26  zM x1 x2 x3 (0 : Int32)
set_option maxHeartbeats 4000000 in
set_option maxRecDepth 100000 in
theorem b_X7_integrate_25 {p : Program} {l : Launch} {e : Env} {s : State} {m : MethodId} {args : Array Value} {below : List Frame} {meth : Method} {c : Code} {G : va_G} {cA : Nat → ClassId} {W9 : va_W} (qM : Nat → Nat) (C0 : Amb p s m args meth c cX7_integrate RX7 8 (some .int) G cA (adr W9) []) {res : Int32 × MdS} : ∀ (zM : MdS) (x1 : Int32) (x2 : Int32) (x3 : Int32) (H : Heap) (locs : List Loc) (ls : Array Slot), va_P G vwCl ((wMd cA qM zM)) H → va_D (adr W9) ((wMd cA qM zM)) → va_S (adr W9) s.heap H locs → lv_has ls 8 [(0, .ref (qM 0)), (1, .int x1), (2, .int x2), (3, .int x3)] → f_X7_integrate_25 zM x1 x2 x3 = some res → W p l e rm_X7_integrate s m args below meth c H locs 0 0 (MQ below (qWi G W9 ((wMd cA qM res.2)) res.1) args s 0 0 (adr W9)) (F0 m 25 ls []) := by
  obtain ⟨hx, hb, hr, hml, hown, hts, hlocks, hK, hR, hRA⟩ := id C0
  intro zM x1 x2 x3 H locs ls hP hD hS hl hf
  unfold f_X7_integrate_25 at hf
  refine lv_iconst (v := 0) hx hb dX7_integrate_25 (by decide) ?_
  exact b_X7_integrate_26 qM   C0  zM x1 x2 x3 (0 : Int32) H locs ls hP hD hS (lv_sub hl [0, 1, 2, 3] rfl) hf
def f_X7_integrate (zM : MdS) (a1 : Int32) (a2 : Int32) (a3 : Int32) : Option (Int32 × MdS) := (f_X7_isSlot a1).bind fun r_1 => if r_1 = 0 then f_X7_integrate_25  zM a1 a2 a3 else (f_X7_isSlot a2).bind fun r_3 => if r_3 = 0 then f_X7_integrate_25  zM a1 a2 a3 else (f_X7_isSlot a3).bind fun r_5 => if r_5 = 0 then f_X7_integrate_25  zM a1 a2 a3 else f_X7_integrate_26  zM a1 a2 a3 (1 : Int32)
set_option maxHeartbeats 4000000 in
set_option maxRecDepth 100000 in
theorem b_X7_integrate_0 {p : Program} {l : Launch} {e : Env} {s : State} {m : MethodId} {args : Array Value} {below : List Frame} {meth : Method} {c : Code} {G : va_G} {cA : Nat → ClassId} {W9 : va_W} (qM : Nat → Nat) (C0 : Amb p s m args meth c cX7_integrate RX7 8 (some .int) G cA (adr W9) []) {res : Int32 × MdS} : ∀ (zM : MdS) (a1 : Int32) (a2 : Int32) (a3 : Int32) (H : Heap) (locs : List Loc) (ls : Array Slot), va_P G vwCl ((wMd cA qM zM)) H → va_D (adr W9) ((wMd cA qM zM)) → va_S (adr W9) s.heap H locs → lv_has ls 8 [(0, .ref (qM 0)), (1, .int a1), (2, .int a2), (3, .int a3)] → f_X7_integrate zM a1 a2 a3 = some res → W p l e rm_X7_integrate s m args below meth c H locs 0 0 (MQ below (qWi G W9 ((wMd cA qM res.2)) res.1) args s 0 0 (adr W9)) (F0 m 0 ls []) := by
  obtain ⟨hx, hb, hr, hml, hown, hts, hlocks, hK, hR, hRA⟩ := id C0
  intro zM a1 a2 a3 H locs ls hP hD hS hl hf
  unfold f_X7_integrate at hf
  refine lv_iload_n hx hb dX7_integrate_0 rfl (lv_at hl 1 rfl) ?_
  obtain ⟨r_1, hr_1, hf⟩ := obd hf
  refine cRiS (As := [.int a1]) (rest := []) ⟨hx, hb, hml, hown, hts⟩ (m_X7_isSlot l G cA a1 r_1 hr_1) (cw_X7_isSlot hts wi_735 ⟨Nat.le_of_ble_eq_true rfl, Nat.le_of_ble_eq_true rfl⟩) hK va_Pnil rfl hl.1 rfl (Nat.le_of_ble_eq_true rfl) dX7_integrate_1 ⟨Nat.zero_le _, Nat.zero_le _⟩ ?_
  refine lv_if_eq (tgt := 25) hx hb dX7_integrate_4 (by decide) (fun c_2 => ?_) (fun c_2 => ?_)
  · rw [if_pos (c_2)] at hf
    exact b_X7_integrate_25 qM   C0  zM a1 a2 a3 H locs ls hP hD hS (lv_sub hl [0, 1, 2, 3] rfl) hf
  · rw [if_neg (c_2)] at hf
    refine lv_iload_n hx hb dX7_integrate_7 rfl (lv_at hl 2 rfl) ?_
    obtain ⟨r_3, hr_3, hf⟩ := obd hf
    refine cRiS (As := [.int a2]) (rest := []) ⟨hx, hb, hml, hown, hts⟩ (m_X7_isSlot l G cA a2 r_3 hr_3) (cw_X7_isSlot hts wi_735 ⟨Nat.le_of_ble_eq_true rfl, Nat.le_of_ble_eq_true rfl⟩) hK va_Pnil rfl hl.1 rfl (Nat.le_of_ble_eq_true rfl) dX7_integrate_8 ⟨Nat.zero_le _, Nat.zero_le _⟩ ?_
    refine lv_if_eq (tgt := 25) hx hb dX7_integrate_11 (by decide) (fun c_4 => ?_) (fun c_4 => ?_)
    · rw [if_pos (c_4)] at hf
      exact b_X7_integrate_25 qM   C0  zM a1 a2 a3 H locs ls hP hD hS (lv_sub hl [0, 1, 2, 3] rfl) hf
    · rw [if_neg (c_4)] at hf
      refine lv_iload_n hx hb dX7_integrate_14 rfl (lv_at hl 3 rfl) ?_
      obtain ⟨r_5, hr_5, hf⟩ := obd hf
      refine cRiS (As := [.int a3]) (rest := []) ⟨hx, hb, hml, hown, hts⟩ (m_X7_isSlot l G cA a3 r_5 hr_5) (cw_X7_isSlot hts wi_735 ⟨Nat.le_of_ble_eq_true rfl, Nat.le_of_ble_eq_true rfl⟩) hK va_Pnil rfl hl.1 rfl (Nat.le_of_ble_eq_true rfl) dX7_integrate_15 ⟨Nat.zero_le _, Nat.zero_le _⟩ ?_
      refine lv_if_eq (tgt := 25) hx hb dX7_integrate_18 (by decide) (fun c_6 => ?_) (fun c_6 => ?_)
      · rw [if_pos (c_6)] at hf
        exact b_X7_integrate_25 qM   C0  zM a1 a2 a3 H locs ls hP hD hS (lv_sub hl [0, 1, 2, 3] rfl) hf
      · rw [if_neg (c_6)] at hf
        refine lv_iconst (v := 1) hx hb dX7_integrate_21 (by decide) ?_
        refine lv_goto (tgt := 26) hx hb dX7_integrate_22 (by decide) ?_
        exact b_X7_integrate_26 qM   C0  zM a1 a2 a3 (1 : Int32) H locs ls hP hD hS (lv_sub hl [0, 1, 2, 3] rfl) hf

set_option maxRecDepth 100000 in
theorem m_X7_integrate (l : Launch) (G : va_G) (cA : Nat → ClassId) (qM : Nat → Nat) (zM : MdS) (a1 : Int32) (a2 : Int32) (a3 : Int32) (res : Int32 × MdS) (hf : f_X7_integrate zM a1 a2 a3 = some res) : MWi l yX7_integrate (.code yX7_integrate cX7_integrate 8 (some .int) :: wd) rm_X7_integrate G cA [.ref (qM 0), .int a1, .int a2, .int a3] ((wMd cA qM zM)) [] ((wMd cA qM res.2)) res.1 := by
  refine Met.ofW (cc := cX7_integrate) (maxL := 8) (ret := (some .int)) (by decide) rfl ?_
  intro p e s m args below meth c s₁ B hml hv
  obtain ⟨rfl, hK, hP, hD0, hR, hRA⟩ := hv
  have C0 : Amb p s m ([.ref (qM 0), .int a1, .int a2, .int a3] : List Value).toArray meth c cX7_integrate RX7 8 (some .int) G cA (adr ((wMd cA qM zM))) [] := ⟨B.exec, B.bytes, B.returns, hml, findClass_of_methodNamed B.named, fun w h => atoms_spec (ws := (.code yX7_integrate cX7_integrate 8 (some .int) :: wd)) B.pre w (List.mem_cons_of_mem _ h), B.notSynchronized, hK, hR, hRA⟩
  have hl := lv_entry ([.ref (qM 0), .int a1, .int a2, .int a3]) (n := 8) (Nat.le_of_ble_eq_true rfl)
  rw [lg_entry_eq]
  generalize (lg_sl ([.ref (qM 0), .int a1, .int a2, .int a3]) ++ List.replicate (8 - (lg_sl ([.ref (qM 0), .int a1, .int a2, .int a3])).length) Slot.unset).toArray = ls at hl ⊢
  have hl : lv_has ls 8 [(0, .ref (qM 0)), (1, .int a1), (2, .int a2), (3, .int a3)] := hl
  exact b_X7_integrate_0 (W9 := ((wMd cA qM zM))) qM   C0 zM a1 a2 a3 s.heap [] ls hP (adr.self hD0) va_S.rf hl hf
theorem cw_X7_integrate {R : Room} {s : State} {args : Array Value} {own : String} {index : Nat} (ht : ∀ w ∈ wd, w.before args s = true) (hlink : Cond.methodLink own index yX7_integrate ∈ wd) (hR : rm_X7_integrate.frames + 1 ≤ R.frames ∧ 8 + (8 + 11) + rm_X7_integrate.locals ≤ R.locals) : CallW R s args own RX7 index yX7_integrate cX7_integrate 8 (some .int) (.code yX7_integrate cX7_integrate 8 (some .int) :: wd) rm_X7_integrate 0 0 3 := cwV9 3 ht wi_873 wi_871 wi_872 wi_60 hlink (by decide +kernel) rfl rfl hR
def rm_X7_same : Room := { frames := 1, cells := 0, slots := 0, locals := 21 }
def f_X7_same_110 (kb_33 : MdS → Int32 → Int32 → Int32 → Int32 → Option (Int32 × MdS)) (zM : MdS) (x1 : Int32) (x2 : Int32) (x4 : Int32) (v0 : Int32) : Option (Int32 × MdS) := kb_33 zM x1 x2 v0 (x4 + 1)
set_option maxHeartbeats 4000000 in
set_option maxRecDepth 100000 in
theorem b_X7_same_110 {p : Program} {l : Launch} {e : Env} {s : State} {m : MethodId} {args : Array Value} {below : List Frame} {meth : Method} {c : Code} {G : va_G} {cA : Nat → ClassId} {W9 : va_W} (qM : Nat → Nat) (C0 : Amb p s m args meth c cX7_same RX7 5 (some .boolean) G cA (adr W9) []) {res : Int32 × MdS} (kb_33 : MdS → Int32 → Int32 → Int32 → Int32 → Option (Int32 × MdS)) (hkb_33 : ∀ (zM : MdS) (x1 : Int32) (x2 : Int32) (x3 : Int32) (x4 : Int32) (H : Heap) (locs : List Loc) (ls : Array Slot), va_P G vwCl ((wMd cA qM zM)) H → va_D (adr W9) ((wMd cA qM zM)) → va_S (adr W9) s.heap H locs → lv_has ls 5 [(0, .ref (qM 0)), (1, .int x1), (2, .int x2), (3, .int x3), (4, .int x4)] → kb_33 zM x1 x2 x3 x4 = some res → W p l e rm_X7_same s m args below meth c H locs 0 0 (MQ below (qWi G W9 ((wMd cA qM res.2)) res.1) args s 0 0 (adr W9)) (F0 m 33 ls [])) : ∀ (zM : MdS) (x1 : Int32) (x2 : Int32) (x4 : Int32) (v0 : Int32) (H : Heap) (locs : List Loc) (ls : Array Slot), va_P G vwCl ((wMd cA qM zM)) H → va_D (adr W9) ((wMd cA qM zM)) → va_S (adr W9) s.heap H locs → lv_has ls 5 [(0, .ref (qM 0)), (1, .int x1), (2, .int x2), (4, .int x4)] → f_X7_same_110 kb_33 zM x1 x2 x4 v0 = some res → W p l e rm_X7_same s m args below meth c H locs 0 0 (MQ below (qWi G W9 ((wMd cA qM res.2)) res.1) args s 0 0 (adr W9)) (F0 m 110 ls [.int v0]) := by
  obtain ⟨hx, hb, hr, hml, hown, hts, hlocks, hK, hR, hRA⟩ := id C0
  intro zM x1 x2 x4 v0 H locs ls hP hD hS hl hf
  unfold f_X7_same_110 at hf
  refine lv_istore_n (lv' := [(3, .int v0), (0, .ref (qM 0)), (1, .int x1), (2, .int x2), (4, .int x4)]) hx hb dX7_same_110 rfl hl (by decide) rfl (fun ls hl => ?_)
  refine lv_iinc (v := (x4 + 1)) (lv' := [(4, .int (x4 + 1)), (3, .int v0), (0, .ref (qM 0)), (1, .int x1), (2, .int x2)]) hx hb dX7_same_111 hl (k := 4) rfl rfl (by decide) rfl (fun ls hl => ?_)
  refine lv_goto (tgt := 33) hx hb dX7_same_114 (by decide) ?_
  exact hkb_33 zM x1 x2 v0 (x4 + 1) H locs ls hP hD hS (lv_sub hl [2, 3, 4, 1, 0] rfl) hf
def f_X7_same_109 (kb_33 : MdS → Int32 → Int32 → Int32 → Int32 → Option (Int32 × MdS)) (zM : MdS) (x1 : Int32) (x2 : Int32) (x4 : Int32) : Option (Int32 × MdS) := f_X7_same_110 kb_33 zM x1 x2 x4 (0 : Int32)
set_option maxHeartbeats 4000000 in
set_option maxRecDepth 100000 in
theorem b_X7_same_109 {p : Program} {l : Launch} {e : Env} {s : State} {m : MethodId} {args : Array Value} {below : List Frame} {meth : Method} {c : Code} {G : va_G} {cA : Nat → ClassId} {W9 : va_W} (qM : Nat → Nat) (C0 : Amb p s m args meth c cX7_same RX7 5 (some .boolean) G cA (adr W9) []) {res : Int32 × MdS} (kb_33 : MdS → Int32 → Int32 → Int32 → Int32 → Option (Int32 × MdS)) (hkb_33 : ∀ (zM : MdS) (x1 : Int32) (x2 : Int32) (x3 : Int32) (x4 : Int32) (H : Heap) (locs : List Loc) (ls : Array Slot), va_P G vwCl ((wMd cA qM zM)) H → va_D (adr W9) ((wMd cA qM zM)) → va_S (adr W9) s.heap H locs → lv_has ls 5 [(0, .ref (qM 0)), (1, .int x1), (2, .int x2), (3, .int x3), (4, .int x4)] → kb_33 zM x1 x2 x3 x4 = some res → W p l e rm_X7_same s m args below meth c H locs 0 0 (MQ below (qWi G W9 ((wMd cA qM res.2)) res.1) args s 0 0 (adr W9)) (F0 m 33 ls [])) : ∀ (zM : MdS) (x1 : Int32) (x2 : Int32) (x4 : Int32) (H : Heap) (locs : List Loc) (ls : Array Slot), va_P G vwCl ((wMd cA qM zM)) H → va_D (adr W9) ((wMd cA qM zM)) → va_S (adr W9) s.heap H locs → lv_has ls 5 [(0, .ref (qM 0)), (1, .int x1), (2, .int x2), (4, .int x4)] → f_X7_same_109 kb_33 zM x1 x2 x4 = some res → W p l e rm_X7_same s m args below meth c H locs 0 0 (MQ below (qWi G W9 ((wMd cA qM res.2)) res.1) args s 0 0 (adr W9)) (F0 m 109 ls []) := by
  obtain ⟨hx, hb, hr, hml, hown, hts, hlocks, hK, hR, hRA⟩ := id C0
  intro zM x1 x2 x4 H locs ls hP hD hS hl hf
  unfold f_X7_same_109 at hf
  refine lv_iconst (v := 0) hx hb dX7_same_109 (by decide) ?_
  exact b_X7_same_110 qM   C0 kb_33 hkb_33 zM x1 x2 x4 (0 : Int32) H locs ls hP hD hS (lv_sub hl [0, 1, 2, 3] rfl) hf
def f_X7_same_33  : Nat → MdS → Int32 → Int32 → Int32 → Int32 → Option (Int32 × MdS)
  | 0, _, _, _, _, _ => none
  | fu + 1, zM, x1, x2, x3, x4 => if (1150 : Int32) ≤ x4 then if zb x3 = true then some (x3, zM) else none else if x3 = 0 then f_X7_same_109 (fun zM_ x1_ x2_ x3_ x4_ => f_X7_same_33  fu zM_ x1_ x2_ x3_ x4_) zM x1 x2 x4 else if inb (((1150 : Int32) * x1) + x4) 11500 = true then if inb (((1150 : Int32) * x2) + x4) 11500 = true then if ¬ (gM_up zM (((1150 : Int32) * x1) + x4).toNatClampNeg) = (gM_up zM (((1150 : Int32) * x2) + x4).toNatClampNeg) then f_X7_same_109 (fun zM_ x1_ x2_ x3_ x4_ => f_X7_same_33  fu zM_ x1_ x2_ x3_ x4_) zM x1 x2 x4 else if inb (((1150 : Int32) * x1) + x4) 11500 = true then if inb (((1150 : Int32) * x2) + x4) 11500 = true then if ¬ (gM_down zM (((1150 : Int32) * x1) + x4).toNatClampNeg) = (gM_down zM (((1150 : Int32) * x2) + x4).toNatClampNeg) then f_X7_same_109 (fun zM_ x1_ x2_ x3_ x4_ => f_X7_same_33  fu zM_ x1_ x2_ x3_ x4_) zM x1 x2 x4 else f_X7_same_110 (fun zM_ x1_ x2_ x3_ x4_ => f_X7_same_33  fu zM_ x1_ x2_ x3_ x4_) zM x1 x2 x4 (1 : Int32) else none else none else none else none
set_option maxHeartbeats 4000000 in
set_option maxRecDepth 100000 in
theorem b_X7_same_33 {p : Program} {l : Launch} {e : Env} {s : State} {m : MethodId} {args : Array Value} {below : List Frame} {meth : Method} {c : Code} {G : va_G} {cA : Nat → ClassId} {W9 : va_W} (qM : Nat → Nat) (C0 : Amb p s m args meth c cX7_same RX7 5 (some .boolean) G cA (adr W9) []) {res : Int32 × MdS} : ∀ (fu : Nat) (zM : MdS) (x1 : Int32) (x2 : Int32) (x3 : Int32) (x4 : Int32) (H : Heap) (locs : List Loc) (ls : Array Slot), va_P G vwCl ((wMd cA qM zM)) H → va_D (adr W9) ((wMd cA qM zM)) → va_S (adr W9) s.heap H locs → lv_has ls 5 [(0, .ref (qM 0)), (1, .int x1), (2, .int x2), (3, .int x3), (4, .int x4)] → f_X7_same_33 fu zM x1 x2 x3 x4 = some res → W p l e rm_X7_same s m args below meth c H locs 0 0 (MQ below (qWi G W9 ((wMd cA qM res.2)) res.1) args s 0 0 (adr W9)) (F0 m 33 ls []) := by
  obtain ⟨hx, hb, hr, hml, hown, hts, hlocks, hK, hR, hRA⟩ := id C0
  intro fu
  induction fu with
  | zero =>
    intro zM x1 x2 x3 x4 H locs ls hP hD hS hl hf
    rw [f_X7_same_33] at hf
    cases hf
  | succ fu ih =>
    intro zM x1 x2 x3 x4 H locs ls hP hD hS hl hf
    rw [f_X7_same_33] at hf
    refine lv_iload hx hb dX7_same_33 (lv_at hl 4 rfl) ?_
    refine lv_sipush (v := (1150 : Int32)) hx hb dX7_same_35 (by decide) ?_
    refine lv_icmp_ge (tgt := 117) hx hb dX7_same_38 (by decide) (fun c_1 => ?_) (fun c_1 => ?_)
    · rw [if_pos (c_1)] at hf
      refine lv_iload_n hx hb dX7_same_117 rfl (lv_at hl 3 rfl) ?_
      obtain ⟨hz_2, hf⟩ := oif hf
      cases hf
      exact W.zret hx hb hr (zb_n hz_2) (fun t ht hW => ⟨⟨_, (), rfl, rfl, toT ht hP⟩, hS.F ht⟩) hS.2.2 dX7_same_118 hlocks
    · rw [if_neg (c_1)] at hf
      refine lv_iload_n hx hb dX7_same_41 rfl (lv_at hl 3 rfl) ?_
      refine lv_if_eq (tgt := 109) hx hb dX7_same_42 (by decide) (fun c_3 => ?_) (fun c_3 => ?_)
      · rw [if_pos (c_3)] at hf
        exact b_X7_same_109 qM   C0 (fun zM_ x1_ x2_ x3_ x4_ => f_X7_same_33  fu zM_ x1_ x2_ x3_ x4_) ih zM x1 x2 x4 H locs ls hP hD hS (lv_sub hl [0, 1, 2, 4] rfl) hf
      · rw [if_neg (c_3)] at hf
        refine lv_aload_n hx hb dX7_same_45 rfl (lv_at hl 0 rfl) ?_
        refine va_get (D := G) (ci := 5) (v := .ref (qM 3)) (C := RX7) (T := TX7) (N := 13) hx hb hts fin_X7 hown hK.1 hP 0 rfl rfl 6 (by decide) (hts _ wi_677) (fun _ h9 => h9) rfl dX7_same_46 ?_
        refine lv_sipush (v := (1150 : Int32)) hx hb dX7_same_49 (by decide) ?_
        refine lv_iload_n hx hb dX7_same_52 rfl (lv_at hl 1 rfl) ?_
        refine lv_imul hx hb dX7_same_53 ?_
        refine lv_iload hx hb dX7_same_54 (lv_at hl 4 rfl) ?_
        refine lv_iadd hx hb dX7_same_56 ?_
        obtain ⟨hi_4, hf⟩ := oif hf
        refine va_lald hx hb hK.1 hP 3 1 rfl rfl (inb_in hi_4) dX7_same_57 ?_
        refine lv_aload_n hx hb dX7_same_58 rfl (lv_at hl 0 rfl) ?_
        refine va_get (D := G) (ci := 5) (v := .ref (qM 3)) (C := RX7) (T := TX7) (N := 13) hx hb hts fin_X7 hown hK.1 hP 0 rfl rfl 6 (by decide) (hts _ wi_677) (fun _ h9 => h9) rfl dX7_same_59 ?_
        refine lv_sipush (v := (1150 : Int32)) hx hb dX7_same_62 (by decide) ?_
        refine lv_iload_n hx hb dX7_same_65 rfl (lv_at hl 2 rfl) ?_
        refine lv_imul hx hb dX7_same_66 ?_
        refine lv_iload hx hb dX7_same_67 (lv_at hl 4 rfl) ?_
        refine lv_iadd hx hb dX7_same_69 ?_
        obtain ⟨hi_5, hf⟩ := oif hf
        refine va_lald hx hb hK.1 hP 3 1 rfl rfl (inb_in hi_5) dX7_same_70 ?_
        refine W.lcmp hx hb dX7_same_71 ?_
        refine lv_if_ne (tgt := 109) hx hb dX7_same_72 (by decide) (fun c_6 => ?_) (fun c_6 => ?_)
        · rw [if_pos (fun h => c_6 ((lg_cmp_eq _ _).mpr h))] at hf
          exact b_X7_same_109 qM   C0 (fun zM_ x1_ x2_ x3_ x4_ => f_X7_same_33  fu zM_ x1_ x2_ x3_ x4_) ih zM x1 x2 x4 H locs ls hP hD hS (lv_sub hl [0, 1, 2, 4] rfl) hf
        · rw [if_neg (fun h => h ((lg_cmp_eq _ _).mp c_6))] at hf
          refine lv_aload_n hx hb dX7_same_75 rfl (lv_at hl 0 rfl) ?_
          refine va_get (D := G) (ci := 5) (v := .ref (qM 4)) (C := RX7) (T := TX7) (N := 13) hx hb hts fin_X7 hown hK.1 hP 0 rfl rfl 7 (by decide) (hts _ wi_678) (fun _ h9 => h9) rfl dX7_same_76 ?_
          refine lv_sipush (v := (1150 : Int32)) hx hb dX7_same_79 (by decide) ?_
          refine lv_iload_n hx hb dX7_same_82 rfl (lv_at hl 1 rfl) ?_
          refine lv_imul hx hb dX7_same_83 ?_
          refine lv_iload hx hb dX7_same_84 (lv_at hl 4 rfl) ?_
          refine lv_iadd hx hb dX7_same_86 ?_
          obtain ⟨hi_7, hf⟩ := oif hf
          refine va_lald hx hb hK.1 hP 4 1 rfl rfl (inb_in hi_7) dX7_same_87 ?_
          refine lv_aload_n hx hb dX7_same_88 rfl (lv_at hl 0 rfl) ?_
          refine va_get (D := G) (ci := 5) (v := .ref (qM 4)) (C := RX7) (T := TX7) (N := 13) hx hb hts fin_X7 hown hK.1 hP 0 rfl rfl 7 (by decide) (hts _ wi_678) (fun _ h9 => h9) rfl dX7_same_89 ?_
          refine lv_sipush (v := (1150 : Int32)) hx hb dX7_same_92 (by decide) ?_
          refine lv_iload_n hx hb dX7_same_95 rfl (lv_at hl 2 rfl) ?_
          refine lv_imul hx hb dX7_same_96 ?_
          refine lv_iload hx hb dX7_same_97 (lv_at hl 4 rfl) ?_
          refine lv_iadd hx hb dX7_same_99 ?_
          obtain ⟨hi_8, hf⟩ := oif hf
          refine va_lald hx hb hK.1 hP 4 1 rfl rfl (inb_in hi_8) dX7_same_100 ?_
          refine W.lcmp hx hb dX7_same_101 ?_
          refine lv_if_ne (tgt := 109) hx hb dX7_same_102 (by decide) (fun c_9 => ?_) (fun c_9 => ?_)
          · rw [if_pos (fun h => c_9 ((lg_cmp_eq _ _).mpr h))] at hf
            exact b_X7_same_109 qM   C0 (fun zM_ x1_ x2_ x3_ x4_ => f_X7_same_33  fu zM_ x1_ x2_ x3_ x4_) ih zM x1 x2 x4 H locs ls hP hD hS (lv_sub hl [0, 1, 2, 4] rfl) hf
          · rw [if_neg (fun h => h ((lg_cmp_eq _ _).mp c_9))] at hf
            refine lv_iconst (v := 1) hx hb dX7_same_105 (by decide) ?_
            refine lv_goto (tgt := 110) hx hb dX7_same_106 (by decide) ?_
            exact b_X7_same_110 qM   C0 (fun zM_ x1_ x2_ x3_ x4_ => f_X7_same_33  fu zM_ x1_ x2_ x3_ x4_) ih zM x1 x2 x4 (1 : Int32) H locs ls hP hD hS (lv_sub hl [0, 1, 2, 4] rfl) hf
def f_X7_same_20 (zM : MdS) (x1 : Int32) (x2 : Int32) (v1 : Int32) : Option (Int32 × MdS) := (f_X7_refused zM v1).bind fun r_1 => if r_1.1 = 0 then f_X7_same_33 fuel r_1.2 x1 x2 (1 : Int32) (0 : Int32) else some ((0 : Int32), r_1.2)
set_option maxHeartbeats 4000000 in
set_option maxRecDepth 100000 in
theorem b_X7_same_20 {p : Program} {l : Launch} {e : Env} {s : State} {m : MethodId} {args : Array Value} {below : List Frame} {meth : Method} {c : Code} {G : va_G} {cA : Nat → ClassId} {W9 : va_W} (qM : Nat → Nat) (C0 : Amb p s m args meth c cX7_same RX7 5 (some .boolean) G cA (adr W9) []) {res : Int32 × MdS} : ∀ (zM : MdS) (x1 : Int32) (x2 : Int32) (v1 : Int32) (H : Heap) (locs : List Loc) (ls : Array Slot), va_P G vwCl ((wMd cA qM zM)) H → va_D (adr W9) ((wMd cA qM zM)) → va_S (adr W9) s.heap H locs → lv_has ls 5 [(0, .ref (qM 0)), (1, .int x1), (2, .int x2)] → f_X7_same_20 zM x1 x2 v1 = some res → W p l e rm_X7_same s m args below meth c H locs 0 0 (MQ below (qWi G W9 ((wMd cA qM res.2)) res.1) args s 0 0 (adr W9)) (F0 m 20 ls [.int v1, .ref (qM 0)]) := by
  obtain ⟨hx, hb, hr, hml, hown, hts, hlocks, hK, hR, hRA⟩ := id C0
  intro zM x1 x2 v1 H locs ls hP hD hS hl hf
  unfold f_X7_same_20 at hf
  obtain ⟨r_1, hr_1, hf⟩ := obd hf
  refine cWiV (As := [.int v1]) (rest := []) (W1 := ((wMd cA qM r_1.2))) ⟨hx, hb, hml, hown, hts⟩ (m_X7_refused l G cA qM zM v1 r_1 hr_1) (cw_X7_refused hts wi_723 ⟨Nat.le_of_ble_eq_true rfl, Nat.le_of_ble_eq_true rfl⟩) hK hP hD hS [0, 1, 2, 3, 4] [5, 6, 7, 8, 9] rfl rfl rfl (by decide) rfl va_Pnil dj_nil (va_recv hK.1 hP (ci := 5) (q0 := 0) rfl rfl) rfl hl.1 rfl (Nat.le_of_ble_eq_true rfl) dX7_same_20 ⟨Nat.zero_le _, Nat.zero_le _⟩ (fun H locs hP hD hS => ?_)
  refine lv_if_eq (tgt := 28) hx hb dX7_same_23 (by decide) (fun c_2 => ?_) (fun c_2 => ?_)
  · rw [if_pos (c_2)] at hf
    refine lv_iconst (v := 1) hx hb dX7_same_28 (by decide) ?_
    refine lv_istore_n (lv' := [(3, .int (1 : Int32)), (0, .ref (qM 0)), (1, .int x1), (2, .int x2)]) hx hb dX7_same_29 rfl hl (by decide) rfl (fun ls hl => ?_)
    refine lv_iconst (v := 0) hx hb dX7_same_30 (by decide) ?_
    refine lv_istore (lv' := [(4, .int (0 : Int32)), (3, .int (1 : Int32)), (0, .ref (qM 0)), (1, .int x1), (2, .int x2)]) hx hb dX7_same_31 hl (by decide) rfl (fun ls hl => ?_)
    exact b_X7_same_33 qM   C0  fuel r_1.2 x1 x2 (1 : Int32) (0 : Int32) H locs ls hP hD hS (lv_sub hl [2, 3, 4, 1, 0] rfl) hf
  · rw [if_neg (c_2)] at hf
    refine lv_iconst (v := 0) hx hb dX7_same_26 (by decide) ?_
    cases hf
    exact W.zret hx hb hr (by decide) (fun t ht hW => ⟨⟨_, (), rfl, rfl, toT ht hP⟩, hS.F ht⟩) hS.2.2 dX7_same_27 hlocks
def f_X7_same_19 (zM : MdS) (x1 : Int32) (x2 : Int32) : Option (Int32 × MdS) := f_X7_same_20  zM x1 x2 (1 : Int32)
set_option maxHeartbeats 4000000 in
set_option maxRecDepth 100000 in
theorem b_X7_same_19 {p : Program} {l : Launch} {e : Env} {s : State} {m : MethodId} {args : Array Value} {below : List Frame} {meth : Method} {c : Code} {G : va_G} {cA : Nat → ClassId} {W9 : va_W} (qM : Nat → Nat) (C0 : Amb p s m args meth c cX7_same RX7 5 (some .boolean) G cA (adr W9) []) {res : Int32 × MdS} : ∀ (zM : MdS) (x1 : Int32) (x2 : Int32) (H : Heap) (locs : List Loc) (ls : Array Slot), va_P G vwCl ((wMd cA qM zM)) H → va_D (adr W9) ((wMd cA qM zM)) → va_S (adr W9) s.heap H locs → lv_has ls 5 [(0, .ref (qM 0)), (1, .int x1), (2, .int x2)] → f_X7_same_19 zM x1 x2 = some res → W p l e rm_X7_same s m args below meth c H locs 0 0 (MQ below (qWi G W9 ((wMd cA qM res.2)) res.1) args s 0 0 (adr W9)) (F0 m 19 ls [.ref (qM 0)]) := by
  obtain ⟨hx, hb, hr, hml, hown, hts, hlocks, hK, hR, hRA⟩ := id C0
  intro zM x1 x2 H locs ls hP hD hS hl hf
  unfold f_X7_same_19 at hf
  refine lv_iconst (v := 1) hx hb dX7_same_19 (by decide) ?_
  exact b_X7_same_20 qM   C0  zM x1 x2 (1 : Int32) H locs ls hP hD hS (lv_sub hl [0, 1, 2] rfl) hf
def f_X7_same (zM : MdS) (a1 : Int32) (a2 : Int32) : Option (Int32 × MdS) := (f_X7_isSlot a1).bind fun r_1 => if r_1 = 0 then f_X7_same_19  zM a1 a2 else (f_X7_isSlot a2).bind fun r_3 => if r_3 = 0 then f_X7_same_19  zM a1 a2 else f_X7_same_20  zM a1 a2 (0 : Int32)
set_option maxHeartbeats 4000000 in
set_option maxRecDepth 100000 in
theorem b_X7_same_0 {p : Program} {l : Launch} {e : Env} {s : State} {m : MethodId} {args : Array Value} {below : List Frame} {meth : Method} {c : Code} {G : va_G} {cA : Nat → ClassId} {W9 : va_W} (qM : Nat → Nat) (C0 : Amb p s m args meth c cX7_same RX7 5 (some .boolean) G cA (adr W9) []) {res : Int32 × MdS} : ∀ (zM : MdS) (a1 : Int32) (a2 : Int32) (H : Heap) (locs : List Loc) (ls : Array Slot), va_P G vwCl ((wMd cA qM zM)) H → va_D (adr W9) ((wMd cA qM zM)) → va_S (adr W9) s.heap H locs → lv_has ls 5 [(0, .ref (qM 0)), (1, .int a1), (2, .int a2)] → f_X7_same zM a1 a2 = some res → W p l e rm_X7_same s m args below meth c H locs 0 0 (MQ below (qWi G W9 ((wMd cA qM res.2)) res.1) args s 0 0 (adr W9)) (F0 m 0 ls []) := by
  obtain ⟨hx, hb, hr, hml, hown, hts, hlocks, hK, hR, hRA⟩ := id C0
  intro zM a1 a2 H locs ls hP hD hS hl hf
  unfold f_X7_same at hf
  refine lv_aload_n hx hb dX7_same_0 rfl (lv_at hl 0 rfl) ?_
  refine lv_iload_n hx hb dX7_same_1 rfl (lv_at hl 1 rfl) ?_
  obtain ⟨r_1, hr_1, hf⟩ := obd hf
  refine cRiS (As := [.int a1]) (rest := [.ref (qM 0)]) ⟨hx, hb, hml, hown, hts⟩ (m_X7_isSlot l G cA a1 r_1 hr_1) (cw_X7_isSlot hts wi_735 ⟨Nat.le_of_ble_eq_true rfl, Nat.le_of_ble_eq_true rfl⟩) hK va_Pnil rfl hl.1 rfl (Nat.le_of_ble_eq_true rfl) dX7_same_2 ⟨Nat.zero_le _, Nat.zero_le _⟩ ?_
  refine lv_if_eq (tgt := 19) hx hb dX7_same_5 (by decide) (fun c_2 => ?_) (fun c_2 => ?_)
  · rw [if_pos (c_2)] at hf
    exact b_X7_same_19 qM   C0  zM a1 a2 H locs ls hP hD hS (lv_sub hl [0, 1, 2] rfl) hf
  · rw [if_neg (c_2)] at hf
    refine lv_iload_n hx hb dX7_same_8 rfl (lv_at hl 2 rfl) ?_
    obtain ⟨r_3, hr_3, hf⟩ := obd hf
    refine cRiS (As := [.int a2]) (rest := [.ref (qM 0)]) ⟨hx, hb, hml, hown, hts⟩ (m_X7_isSlot l G cA a2 r_3 hr_3) (cw_X7_isSlot hts wi_735 ⟨Nat.le_of_ble_eq_true rfl, Nat.le_of_ble_eq_true rfl⟩) hK va_Pnil rfl hl.1 rfl (Nat.le_of_ble_eq_true rfl) dX7_same_9 ⟨Nat.zero_le _, Nat.zero_le _⟩ ?_
    refine lv_if_eq (tgt := 19) hx hb dX7_same_12 (by decide) (fun c_4 => ?_) (fun c_4 => ?_)
    · rw [if_pos (c_4)] at hf
      exact b_X7_same_19 qM   C0  zM a1 a2 H locs ls hP hD hS (lv_sub hl [0, 1, 2] rfl) hf
    · rw [if_neg (c_4)] at hf
      refine lv_iconst (v := 0) hx hb dX7_same_15 (by decide) ?_
      refine lv_goto (tgt := 20) hx hb dX7_same_16 (by decide) ?_
      exact b_X7_same_20 qM   C0  zM a1 a2 (0 : Int32) H locs ls hP hD hS (lv_sub hl [0, 1, 2] rfl) hf

set_option maxRecDepth 100000 in
theorem m_X7_same (l : Launch) (G : va_G) (cA : Nat → ClassId) (qM : Nat → Nat) (zM : MdS) (a1 : Int32) (a2 : Int32) (res : Int32 × MdS) (hf : f_X7_same zM a1 a2 = some res) : MWi l yX7_same (.code yX7_same cX7_same 5 (some .boolean) :: wd) rm_X7_same G cA [.ref (qM 0), .int a1, .int a2] ((wMd cA qM zM)) [] ((wMd cA qM res.2)) res.1 := by
  refine Met.ofW (cc := cX7_same) (maxL := 5) (ret := (some .boolean)) (by decide) rfl ?_
  intro p e s m args below meth c s₁ B hml hv
  obtain ⟨rfl, hK, hP, hD0, hR, hRA⟩ := hv
  have C0 : Amb p s m ([.ref (qM 0), .int a1, .int a2] : List Value).toArray meth c cX7_same RX7 5 (some .boolean) G cA (adr ((wMd cA qM zM))) [] := ⟨B.exec, B.bytes, B.returns, hml, findClass_of_methodNamed B.named, fun w h => atoms_spec (ws := (.code yX7_same cX7_same 5 (some .boolean) :: wd)) B.pre w (List.mem_cons_of_mem _ h), B.notSynchronized, hK, hR, hRA⟩
  have hl := lv_entry ([.ref (qM 0), .int a1, .int a2]) (n := 5) (Nat.le_of_ble_eq_true rfl)
  rw [lg_entry_eq]
  generalize (lg_sl ([.ref (qM 0), .int a1, .int a2]) ++ List.replicate (5 - (lg_sl ([.ref (qM 0), .int a1, .int a2])).length) Slot.unset).toArray = ls at hl ⊢
  have hl : lv_has ls 5 [(0, .ref (qM 0)), (1, .int a1), (2, .int a2)] := hl
  exact b_X7_same_0 (W9 := ((wMd cA qM zM))) qM   C0 zM a1 a2 s.heap [] ls hP (adr.self hD0) va_S.rf hl hf
theorem cw_X7_same {R : Room} {s : State} {args : Array Value} {own : String} {index : Nat} (ht : ∀ w ∈ wd, w.before args s = true) (hlink : Cond.methodLink own index yX7_same ∈ wd) (hR : rm_X7_same.frames + 1 ≤ R.frames ∧ 8 + (5 + 11) + rm_X7_same.locals ≤ R.locals) : CallW R s args own RX7 index yX7_same cX7_same 5 (some .boolean) (.code yX7_same cX7_same 5 (some .boolean) :: wd) rm_X7_same 0 0 2 := cwV9 2 ht wi_894 wi_892 wi_893 wi_60 hlink (by decide +kernel) rfl rfl hR
def rm_X7_terms : Room := { frames := 1, cells := 0, slots := 0, locals := 23 }
def f_X7_terms_13 (zM : MdS) (x1 : Int32) (v1 : Int32) : Option (Int32 × MdS) := (f_X7_refused zM v1).bind fun r_1 => if r_1.1 = 0 then (f_X7_termsOf r_1.2 x1).bind fun r_3 => some (r_3, r_1.2) else some ((0 : Int32), r_1.2)
set_option maxHeartbeats 4000000 in
set_option maxRecDepth 100000 in
theorem b_X7_terms_13 {p : Program} {l : Launch} {e : Env} {s : State} {m : MethodId} {args : Array Value} {below : List Frame} {meth : Method} {c : Code} {G : va_G} {cA : Nat → ClassId} {W9 : va_W} (qM : Nat → Nat) (C0 : Amb p s m args meth c cX7_terms RX7 2 (some .int) G cA (adr W9) []) {res : Int32 × MdS} : ∀ (zM : MdS) (x1 : Int32) (v1 : Int32) (H : Heap) (locs : List Loc) (ls : Array Slot), va_P G vwCl ((wMd cA qM zM)) H → va_D (adr W9) ((wMd cA qM zM)) → va_S (adr W9) s.heap H locs → lv_has ls 2 [(0, .ref (qM 0)), (1, .int x1)] → f_X7_terms_13 zM x1 v1 = some res → W p l e rm_X7_terms s m args below meth c H locs 0 0 (MQ below (qWi G W9 ((wMd cA qM res.2)) res.1) args s 0 0 (adr W9)) (F0 m 13 ls [.int v1, .ref (qM 0)]) := by
  obtain ⟨hx, hb, hr, hml, hown, hts, hlocks, hK, hR, hRA⟩ := id C0
  intro zM x1 v1 H locs ls hP hD hS hl hf
  unfold f_X7_terms_13 at hf
  obtain ⟨r_1, hr_1, hf⟩ := obd hf
  refine cWiV (As := [.int v1]) (rest := []) (W1 := ((wMd cA qM r_1.2))) ⟨hx, hb, hml, hown, hts⟩ (m_X7_refused l G cA qM zM v1 r_1 hr_1) (cw_X7_refused hts wi_723 ⟨Nat.le_of_ble_eq_true rfl, Nat.le_of_ble_eq_true rfl⟩) hK hP hD hS [0, 1, 2, 3, 4] [5, 6, 7, 8, 9] rfl rfl rfl (by decide) rfl va_Pnil dj_nil (va_recv hK.1 hP (ci := 5) (q0 := 0) rfl rfl) rfl hl.1 rfl (Nat.le_of_ble_eq_true rfl) dX7_terms_13 ⟨Nat.zero_le _, Nat.zero_le _⟩ (fun H locs hP hD hS => ?_)
  refine lv_if_eq (tgt := 21) hx hb dX7_terms_16 (by decide) (fun c_2 => ?_) (fun c_2 => ?_)
  · rw [if_pos (c_2)] at hf
    refine lv_aload_n hx hb dX7_terms_21 rfl (lv_at hl 0 rfl) ?_
    refine lv_iload_n hx hb dX7_terms_22 rfl (lv_at hl 1 rfl) ?_
    obtain ⟨r_3, hr_3, hf⟩ := obd hf
    refine cRiV (As := [.int x1]) (rest := []) ⟨hx, hb, hml, hown, hts⟩ (m_X7_termsOf l G cA qM r_1.2 x1 r_3 hr_3) (cw_X7_termsOf hts wi_798 ⟨Nat.le_of_ble_eq_true rfl, Nat.le_of_ble_eq_true rfl⟩) hK (pk hP [0, 1, 2, 3, 4] rfl) (va_recv hK.1 hP (ci := 5) (q0 := 0) rfl rfl) rfl hl.1 rfl (Nat.le_of_ble_eq_true rfl) dX7_terms_23 ⟨Nat.zero_le _, Nat.zero_le _⟩ ?_
    cases hf
    exact W.iret hx hb hr (fun t ht hW => ⟨⟨_, (), rfl, rfl, toT ht hP⟩, hS.F ht⟩) hS.2.2 dX7_terms_26 hlocks
  · rw [if_neg (c_2)] at hf
    refine lv_iconst (v := 0) hx hb dX7_terms_19 (by decide) ?_
    cases hf
    exact W.iret hx hb hr (fun t ht hW => ⟨⟨_, (), rfl, rfl, toT ht hP⟩, hS.F ht⟩) hS.2.2 dX7_terms_20 hlocks
def f_X7_terms (zM : MdS) (a1 : Int32) : Option (Int32 × MdS) := (f_X7_isSlot a1).bind fun r_1 => if r_1 = 0 then f_X7_terms_13  zM a1 (1 : Int32) else f_X7_terms_13  zM a1 (0 : Int32)
set_option maxHeartbeats 4000000 in
set_option maxRecDepth 100000 in
theorem b_X7_terms_0 {p : Program} {l : Launch} {e : Env} {s : State} {m : MethodId} {args : Array Value} {below : List Frame} {meth : Method} {c : Code} {G : va_G} {cA : Nat → ClassId} {W9 : va_W} (qM : Nat → Nat) (C0 : Amb p s m args meth c cX7_terms RX7 2 (some .int) G cA (adr W9) []) {res : Int32 × MdS} : ∀ (zM : MdS) (a1 : Int32) (H : Heap) (locs : List Loc) (ls : Array Slot), va_P G vwCl ((wMd cA qM zM)) H → va_D (adr W9) ((wMd cA qM zM)) → va_S (adr W9) s.heap H locs → lv_has ls 2 [(0, .ref (qM 0)), (1, .int a1)] → f_X7_terms zM a1 = some res → W p l e rm_X7_terms s m args below meth c H locs 0 0 (MQ below (qWi G W9 ((wMd cA qM res.2)) res.1) args s 0 0 (adr W9)) (F0 m 0 ls []) := by
  obtain ⟨hx, hb, hr, hml, hown, hts, hlocks, hK, hR, hRA⟩ := id C0
  intro zM a1 H locs ls hP hD hS hl hf
  unfold f_X7_terms at hf
  refine lv_aload_n hx hb dX7_terms_0 rfl (lv_at hl 0 rfl) ?_
  refine lv_iload_n hx hb dX7_terms_1 rfl (lv_at hl 1 rfl) ?_
  obtain ⟨r_1, hr_1, hf⟩ := obd hf
  refine cRiS (As := [.int a1]) (rest := [.ref (qM 0)]) ⟨hx, hb, hml, hown, hts⟩ (m_X7_isSlot l G cA a1 r_1 hr_1) (cw_X7_isSlot hts wi_735 ⟨Nat.le_of_ble_eq_true rfl, Nat.le_of_ble_eq_true rfl⟩) hK va_Pnil rfl hl.1 rfl (Nat.le_of_ble_eq_true rfl) dX7_terms_2 ⟨Nat.zero_le _, Nat.zero_le _⟩ ?_
  refine lv_if_eq (tgt := 12) hx hb dX7_terms_5 (by decide) (fun c_2 => ?_) (fun c_2 => ?_)
  · rw [if_pos (c_2)] at hf
    refine lv_iconst (v := 1) hx hb dX7_terms_12 (by decide) ?_
    exact b_X7_terms_13 qM   C0  zM a1 (1 : Int32) H locs ls hP hD hS (lv_sub hl [0, 1] rfl) hf
  · rw [if_neg (c_2)] at hf
    refine lv_iconst (v := 0) hx hb dX7_terms_8 (by decide) ?_
    refine lv_goto (tgt := 13) hx hb dX7_terms_9 (by decide) ?_
    exact b_X7_terms_13 qM   C0  zM a1 (0 : Int32) H locs ls hP hD hS (lv_sub hl [0, 1] rfl) hf

set_option maxRecDepth 100000 in
theorem m_X7_terms (l : Launch) (G : va_G) (cA : Nat → ClassId) (qM : Nat → Nat) (zM : MdS) (a1 : Int32) (res : Int32 × MdS) (hf : f_X7_terms zM a1 = some res) : MWi l yX7_terms (.code yX7_terms cX7_terms 2 (some .int) :: wd) rm_X7_terms G cA [.ref (qM 0), .int a1] ((wMd cA qM zM)) [] ((wMd cA qM res.2)) res.1 := by
  refine Met.ofW (cc := cX7_terms) (maxL := 2) (ret := (some .int)) (by decide) rfl ?_
  intro p e s m args below meth c s₁ B hml hv
  obtain ⟨rfl, hK, hP, hD0, hR, hRA⟩ := hv
  have C0 : Amb p s m ([.ref (qM 0), .int a1] : List Value).toArray meth c cX7_terms RX7 2 (some .int) G cA (adr ((wMd cA qM zM))) [] := ⟨B.exec, B.bytes, B.returns, hml, findClass_of_methodNamed B.named, fun w h => atoms_spec (ws := (.code yX7_terms cX7_terms 2 (some .int) :: wd)) B.pre w (List.mem_cons_of_mem _ h), B.notSynchronized, hK, hR, hRA⟩
  have hl := lv_entry ([.ref (qM 0), .int a1]) (n := 2) (Nat.le_of_ble_eq_true rfl)
  rw [lg_entry_eq]
  generalize (lg_sl ([.ref (qM 0), .int a1]) ++ List.replicate (2 - (lg_sl ([.ref (qM 0), .int a1])).length) Slot.unset).toArray = ls at hl ⊢
  have hl : lv_has ls 2 [(0, .ref (qM 0)), (1, .int a1)] := hl
  exact b_X7_terms_0 (W9 := ((wMd cA qM zM))) qM   C0 zM a1 s.heap [] ls hP (adr.self hD0) va_S.rf hl hf
theorem cw_X7_terms {R : Room} {s : State} {args : Array Value} {own : String} {index : Nat} (ht : ∀ w ∈ wd, w.before args s = true) (hlink : Cond.methodLink own index yX7_terms ∈ wd) (hR : rm_X7_terms.frames + 1 ≤ R.frames ∧ 8 + (2 + 11) + rm_X7_terms.locals ≤ R.locals) : CallW R s args own RX7 index yX7_terms cX7_terms 2 (some .int) (.code yX7_terms cX7_terms 2 (some .int) :: wd) rm_X7_terms 0 0 1 := cwV9 1 ht wi_898 wi_896 wi_897 wi_60 hlink (by decide +kernel) rfl rfl hR
def rm_X7_term : Room := { frames := 1, cells := 0, slots := 0, locals := 21 }
def f_X7_term_161 (kb_36 : MdS → Int32 → Int32 → Int32 → Int32 → Int32 → Option (Int64 × MdS)) (kb_51 : MdS → Int32 → Int32 → Int32 → Int32 → Int32 → Int32 → Option (Int64 × MdS)) (zM : MdS) (x1 : Int32) (x2 : Int32) (x3 : Int32) (x4 : Int32) (x5 : Int32) (x6 : Int32) : Option (Int64 × MdS) := kb_51 zM x1 x2 x3 x4 x5 (x6 + (-1))
set_option maxHeartbeats 4000000 in
set_option maxRecDepth 100000 in
theorem b_X7_term_161 {p : Program} {l : Launch} {e : Env} {s : State} {m : MethodId} {args : Array Value} {below : List Frame} {meth : Method} {c : Code} {G : va_G} {cA : Nat → ClassId} {W9 : va_W} (qM : Nat → Nat) (C0 : Amb p s m args meth c cX7_term RX7 8 (some .long) G cA (adr W9) []) {res : Int64 × MdS} (kb_36 : MdS → Int32 → Int32 → Int32 → Int32 → Int32 → Option (Int64 × MdS)) (hkb_36 : ∀ (zM : MdS) (x1 : Int32) (x2 : Int32) (x3 : Int32) (x4 : Int32) (x5 : Int32) (H : Heap) (locs : List Loc) (ls : Array Slot), va_P G vwCl ((wMd cA qM zM)) H → va_D (adr W9) ((wMd cA qM zM)) → va_S (adr W9) s.heap H locs → lv_has ls 8 [(0, .ref (qM 0)), (1, .int x1), (2, .int x2), (3, .int x3), (4, .int x4), (5, .int x5)] → kb_36 zM x1 x2 x3 x4 x5 = some res → W p l e rm_X7_term s m args below meth c H locs 0 0 (MQ below (qWl G W9 ((wMd cA qM res.2)) res.1) args s 0 0 (adr W9)) (F0 m 36 ls [])) (kb_51 : MdS → Int32 → Int32 → Int32 → Int32 → Int32 → Int32 → Option (Int64 × MdS)) (hkb_51 : ∀ (zM : MdS) (x1 : Int32) (x2 : Int32) (x3 : Int32) (x4 : Int32) (x5 : Int32) (x6 : Int32) (H : Heap) (locs : List Loc) (ls : Array Slot), va_P G vwCl ((wMd cA qM zM)) H → va_D (adr W9) ((wMd cA qM zM)) → va_S (adr W9) s.heap H locs → lv_has ls 8 [(0, .ref (qM 0)), (1, .int x1), (2, .int x2), (3, .int x3), (4, .int x4), (5, .int x5), (6, .int x6)] → kb_51 zM x1 x2 x3 x4 x5 x6 = some res → W p l e rm_X7_term s m args below meth c H locs 0 0 (MQ below (qWl G W9 ((wMd cA qM res.2)) res.1) args s 0 0 (adr W9)) (F0 m 51 ls [])) : ∀ (zM : MdS) (x1 : Int32) (x2 : Int32) (x3 : Int32) (x4 : Int32) (x5 : Int32) (x6 : Int32) (H : Heap) (locs : List Loc) (ls : Array Slot), va_P G vwCl ((wMd cA qM zM)) H → va_D (adr W9) ((wMd cA qM zM)) → va_S (adr W9) s.heap H locs → lv_has ls 8 [(0, .ref (qM 0)), (1, .int x1), (2, .int x2), (3, .int x3), (4, .int x4), (5, .int x5), (6, .int x6)] → f_X7_term_161 kb_36 kb_51 zM x1 x2 x3 x4 x5 x6 = some res → W p l e rm_X7_term s m args below meth c H locs 0 0 (MQ below (qWl G W9 ((wMd cA qM res.2)) res.1) args s 0 0 (adr W9)) (F0 m 161 ls []) := by
  obtain ⟨hx, hb, hr, hml, hown, hts, hlocks, hK, hR, hRA⟩ := id C0
  intro zM x1 x2 x3 x4 x5 x6 H locs ls hP hD hS hl hf
  unfold f_X7_term_161 at hf
  refine lv_iinc (v := (x6 + (-1))) (lv' := [(6, .int (x6 + (-1))), (0, .ref (qM 0)), (1, .int x1), (2, .int x2), (3, .int x3), (4, .int x4), (5, .int x5)]) hx hb dX7_term_161 hl (k := 6) rfl rfl (by decide) rfl (fun ls hl => ?_)
  refine lv_goto (tgt := 51) hx hb dX7_term_164 (by decide) ?_
  exact hkb_51 zM x1 x2 x3 x4 x5 (x6 + (-1)) H locs ls hP hD hS (lv_sub hl [1, 2, 3, 4, 5, 6, 0] rfl) hf
def f_X7_term_51 (kb_36 : MdS → Int32 → Int32 → Int32 → Int32 → Int32 → Option (Int64 × MdS)) : Nat → MdS → Int32 → Int32 → Int32 → Int32 → Int32 → Int32 → Option (Int64 × MdS)
  | 0, _, _, _, _, _, _, _ => none
  | fu + 1, zM, x1, x2, x3, x4, x5, x6 => if x6 ≤ (-13 : Int32) then kb_36 zM x1 x2 x3 x4 (x5 + 1) else (some ((((((1150 : Int32) * x1) + ((25 : Int32) * x5)) + x6) + (12 : Int32)))).bind fun y_2 => if inb y_2 11500 = true then if ¬ (gM_up zM y_2.toNatClampNeg) = (0 : Int64) then if ¬ x4 = 0 then f_X7_term_161 kb_36 (fun zM_ x1_ x2_ x3_ x4_ x5_ x6_ => f_X7_term_51 kb_36 fu zM_ x1_ x2_ x3_ x4_ x5_ x6_) zM x1 x2 x3 (x4 + (-1)) x5 x6 else if ¬ x3 = 0 then if ¬ x3 = (1 : Int32) then if ¬ x3 = (2 : Int32) then if ¬ x3 = (3 : Int32) then some (x6.toInt64, zM) else (f_X7_countOf x5).bind fun r_10 => some (r_10.toInt64, zM) else (f_X7_kindOf x5).bind fun r_11 => some (r_11.toInt64, zM) else if inb y_2 11500 = true then some ((gM_down zM y_2.toNatClampNeg), zM) else none else if inb y_2 11500 = true then some ((gM_up zM y_2.toNatClampNeg), zM) else none else f_X7_term_161 kb_36 (fun zM_ x1_ x2_ x3_ x4_ x5_ x6_ => f_X7_term_51 kb_36 fu zM_ x1_ x2_ x3_ x4_ x5_ x6_) zM x1 x2 x3 x4 x5 x6 else none
set_option maxHeartbeats 4000000 in
set_option maxRecDepth 100000 in
theorem b_X7_term_51 {p : Program} {l : Launch} {e : Env} {s : State} {m : MethodId} {args : Array Value} {below : List Frame} {meth : Method} {c : Code} {G : va_G} {cA : Nat → ClassId} {W9 : va_W} (qM : Nat → Nat) (C0 : Amb p s m args meth c cX7_term RX7 8 (some .long) G cA (adr W9) []) {res : Int64 × MdS} (kb_36 : MdS → Int32 → Int32 → Int32 → Int32 → Int32 → Option (Int64 × MdS)) (hkb_36 : ∀ (zM : MdS) (x1 : Int32) (x2 : Int32) (x3 : Int32) (x4 : Int32) (x5 : Int32) (H : Heap) (locs : List Loc) (ls : Array Slot), va_P G vwCl ((wMd cA qM zM)) H → va_D (adr W9) ((wMd cA qM zM)) → va_S (adr W9) s.heap H locs → lv_has ls 8 [(0, .ref (qM 0)), (1, .int x1), (2, .int x2), (3, .int x3), (4, .int x4), (5, .int x5)] → kb_36 zM x1 x2 x3 x4 x5 = some res → W p l e rm_X7_term s m args below meth c H locs 0 0 (MQ below (qWl G W9 ((wMd cA qM res.2)) res.1) args s 0 0 (adr W9)) (F0 m 36 ls [])) : ∀ (fu : Nat) (zM : MdS) (x1 : Int32) (x2 : Int32) (x3 : Int32) (x4 : Int32) (x5 : Int32) (x6 : Int32) (H : Heap) (locs : List Loc) (ls : Array Slot), va_P G vwCl ((wMd cA qM zM)) H → va_D (adr W9) ((wMd cA qM zM)) → va_S (adr W9) s.heap H locs → lv_has ls 8 [(0, .ref (qM 0)), (1, .int x1), (2, .int x2), (3, .int x3), (4, .int x4), (5, .int x5), (6, .int x6)] → f_X7_term_51 kb_36 fu zM x1 x2 x3 x4 x5 x6 = some res → W p l e rm_X7_term s m args below meth c H locs 0 0 (MQ below (qWl G W9 ((wMd cA qM res.2)) res.1) args s 0 0 (adr W9)) (F0 m 51 ls []) := by
  obtain ⟨hx, hb, hr, hml, hown, hts, hlocks, hK, hR, hRA⟩ := id C0
  intro fu
  induction fu with
  | zero =>
    intro zM x1 x2 x3 x4 x5 x6 H locs ls hP hD hS hl hf
    rw [f_X7_term_51] at hf
    cases hf
  | succ fu ih =>
    intro zM x1 x2 x3 x4 x5 x6 H locs ls hP hD hS hl hf
    rw [f_X7_term_51] at hf
    refine lv_iload hx hb dX7_term_51 (lv_at hl 6 rfl) ?_
    refine lv_bipush (v := (-13 : Int32)) hx hb dX7_term_53 (by decide) ?_
    refine lv_icmp_le (tgt := 167) hx hb dX7_term_55 (by decide) (fun c_1 => ?_) (fun c_1 => ?_)
    · rw [if_pos (c_1)] at hf
      refine lv_iinc (v := (x5 + 1)) (lv' := [(5, .int (x5 + 1)), (0, .ref (qM 0)), (1, .int x1), (2, .int x2), (3, .int x3), (4, .int x4), (6, .int x6)]) hx hb dX7_term_167 hl (k := 5) rfl rfl (by decide) rfl (fun ls hl => ?_)
      refine lv_goto (tgt := 36) hx hb dX7_term_170 (by decide) ?_
      exact hkb_36 zM x1 x2 x3 x4 (x5 + 1) H locs ls hP hD hS (lv_sub hl [1, 2, 3, 4, 5, 0] rfl) hf
    · rw [if_neg (c_1)] at hf
      refine lv_sipush (v := (1150 : Int32)) hx hb dX7_term_58 (by decide) ?_
      refine lv_iload_n hx hb dX7_term_61 rfl (lv_at hl 1 rfl) ?_
      refine lv_imul hx hb dX7_term_62 ?_
      refine lv_bipush (v := (25 : Int32)) hx hb dX7_term_63 (by decide) ?_
      refine lv_iload hx hb dX7_term_65 (lv_at hl 5 rfl) ?_
      refine lv_imul hx hb dX7_term_67 ?_
      refine lv_iadd hx hb dX7_term_68 ?_
      refine lv_iload hx hb dX7_term_69 (lv_at hl 6 rfl) ?_
      refine lv_iadd hx hb dX7_term_71 ?_
      refine lv_bipush (v := (12 : Int32)) hx hb dX7_term_72 (by decide) ?_
      refine lv_iadd hx hb dX7_term_74 ?_
      obtain ⟨y_2, hq, hf⟩ := obd hf
      have hy_2 : (((((1150 : Int32) * x1) + ((25 : Int32) * x5)) + x6) + (12 : Int32)) = y_2 := Option.some.inj hq
      rw [hy_2]
      refine lv_istore (lv' := [(7, .int y_2), (0, .ref (qM 0)), (1, .int x1), (2, .int x2), (3, .int x3), (4, .int x4), (5, .int x5), (6, .int x6)]) hx hb dX7_term_75 hl (by decide) rfl (fun ls hl => ?_)
      refine lv_aload_n hx hb dX7_term_77 rfl (lv_at hl 1 rfl) ?_
      refine va_get (D := G) (ci := 5) (v := .ref (qM 3)) (C := RX7) (T := TX7) (N := 13) hx hb hts fin_X7 hown hK.1 hP 0 rfl rfl 6 (by decide) (hts _ wi_677) (fun _ h9 => h9) rfl dX7_term_78 ?_
      refine lv_iload hx hb dX7_term_81 (lv_at hl 0 rfl) ?_
      obtain ⟨hi_3, hf⟩ := oif hf
      refine va_lald hx hb hK.1 hP 3 1 rfl rfl (inb_in hi_3) dX7_term_83 ?_
      refine lv_lconst (v := (0 : Int64)) hx hb dX7_term_84 (by decide) ?_
      refine W.lcmp hx hb dX7_term_85 ?_
      refine lv_if_ne (tgt := 92) hx hb dX7_term_86 (by decide) (fun c_4 => ?_) (fun c_4 => ?_)
      · rw [if_pos (fun h => c_4 ((lg_cmp_eq _ _).mpr h))] at hf
        refine lv_iload hx hb dX7_term_92 (lv_at hl 5 rfl) ?_
        refine lv_if_ne (tgt := 158) hx hb dX7_term_94 (by decide) (fun c_5 => ?_) (fun c_5 => ?_)
        · rw [if_pos (c_5)] at hf
          refine lv_iinc (v := (x4 + (-1))) (lv' := [(4, .int (x4 + (-1))), (7, .int y_2), (0, .ref (qM 0)), (1, .int x1), (2, .int x2), (3, .int x3), (5, .int x5), (6, .int x6)]) hx hb dX7_term_158 hl (k := 5) rfl rfl (by decide) rfl (fun ls hl => ?_)
          exact b_X7_term_161 qM   C0 kb_36 hkb_36 (fun zM_ x1_ x2_ x3_ x4_ x5_ x6_ => f_X7_term_51 kb_36 fu zM_ x1_ x2_ x3_ x4_ x5_ x6_) ih zM x1 x2 x3 (x4 + (-1)) x5 x6 H locs ls hP hD hS (lv_sub hl [2, 3, 4, 5, 0, 6, 7] rfl) hf
        · rw [if_neg (not_not_intro c_5)] at hf
          refine lv_iload_n hx hb dX7_term_97 rfl (lv_at hl 4 rfl) ?_
          refine lv_if_ne (tgt := 111) hx hb dX7_term_98 (by decide) (fun c_6 => ?_) (fun c_6 => ?_)
          · rw [if_pos (c_6)] at hf
            refine lv_iload_n hx hb dX7_term_111 rfl (lv_at hl 4 rfl) ?_
            refine lv_iconst (v := 1) hx hb dX7_term_112 (by decide) ?_
            refine lv_icmp_ne (tgt := 126) hx hb dX7_term_113 (by decide) (fun c_7 => ?_) (fun c_7 => ?_)
            · rw [if_pos (c_7)] at hf
              refine lv_iload_n hx hb dX7_term_126 rfl (lv_at hl 4 rfl) ?_
              refine lv_iconst (v := 2) hx hb dX7_term_127 (by decide) ?_
              refine lv_icmp_ne (tgt := 140) hx hb dX7_term_128 (by decide) (fun c_8 => ?_) (fun c_8 => ?_)
              · rw [if_pos (c_8)] at hf
                refine lv_iload_n hx hb dX7_term_140 rfl (lv_at hl 4 rfl) ?_
                refine lv_iconst (v := 3) hx hb dX7_term_141 (by decide) ?_
                refine lv_icmp_ne (tgt := 154) hx hb dX7_term_142 (by decide) (fun c_9 => ?_) (fun c_9 => ?_)
                · rw [if_pos (c_9)] at hf
                  refine lv_iload hx hb dX7_term_154 (lv_at hl 7 rfl) ?_
                  refine lv_i2l (v := x6.toInt64) hx hb dX7_term_156 rfl ?_
                  cases hf
                  exact W.lret hx hb hr (fun t ht hW => ⟨⟨_, (), rfl, rfl, toT ht hP⟩, hS.F ht⟩) hS.2.2 dX7_term_157 hlocks
                · rw [if_neg (not_not_intro c_9)] at hf
                  refine lv_iload hx hb dX7_term_145 (lv_at hl 6 rfl) ?_
                  obtain ⟨r_10, hr_10, hf⟩ := obd hf
                  refine cRiS (As := [.int x5]) (rest := []) ⟨hx, hb, hml, hown, hts⟩ (m_X7_countOf l G cA x5 r_10 hr_10) (cw_X7_countOf hts wi_836 ⟨Nat.le_of_ble_eq_true rfl, Nat.le_of_ble_eq_true rfl⟩) hK va_Pnil rfl hl.1 rfl (Nat.le_of_ble_eq_true rfl) dX7_term_147 ⟨Nat.zero_le _, Nat.zero_le _⟩ ?_
                  refine lv_i2l (v := r_10.toInt64) hx hb dX7_term_150 rfl ?_
                  refine lv_goto (tgt := 157) hx hb dX7_term_151 (by decide) ?_
                  cases hf
                  exact W.lret hx hb hr (fun t ht hW => ⟨⟨_, (), rfl, rfl, toT ht hP⟩, hS.F ht⟩) hS.2.2 dX7_term_157 hlocks
              · rw [if_neg (not_not_intro c_8)] at hf
                refine lv_iload hx hb dX7_term_131 (lv_at hl 6 rfl) ?_
                obtain ⟨r_11, hr_11, hf⟩ := obd hf
                refine cRiS (As := [.int x5]) (rest := []) ⟨hx, hb, hml, hown, hts⟩ (m_X7_kindOf l G cA x5 r_11 hr_11) (cw_X7_kindOf hts wi_833 ⟨Nat.le_of_ble_eq_true rfl, Nat.le_of_ble_eq_true rfl⟩) hK va_Pnil rfl hl.1 rfl (Nat.le_of_ble_eq_true rfl) dX7_term_133 ⟨Nat.zero_le _, Nat.zero_le _⟩ ?_
                refine lv_i2l (v := r_11.toInt64) hx hb dX7_term_136 rfl ?_
                refine lv_goto (tgt := 157) hx hb dX7_term_137 (by decide) ?_
                cases hf
                exact W.lret hx hb hr (fun t ht hW => ⟨⟨_, (), rfl, rfl, toT ht hP⟩, hS.F ht⟩) hS.2.2 dX7_term_157 hlocks
            · rw [if_neg (not_not_intro c_7)] at hf
              refine lv_aload_n hx hb dX7_term_116 rfl (lv_at hl 1 rfl) ?_
              refine va_get (D := G) (ci := 5) (v := .ref (qM 4)) (C := RX7) (T := TX7) (N := 13) hx hb hts fin_X7 hown hK.1 hP 0 rfl rfl 7 (by decide) (hts _ wi_678) (fun _ h9 => h9) rfl dX7_term_117 ?_
              refine lv_iload hx hb dX7_term_120 (lv_at hl 0 rfl) ?_
              obtain ⟨hi_12, hf⟩ := oif hf
              refine va_lald hx hb hK.1 hP 4 1 rfl rfl (inb_in hi_12) dX7_term_122 ?_
              refine lv_goto (tgt := 157) hx hb dX7_term_123 (by decide) ?_
              cases hf
              exact W.lret hx hb hr (fun t ht hW => ⟨⟨_, (), rfl, rfl, toT ht hP⟩, hS.F ht⟩) hS.2.2 dX7_term_157 hlocks
          · rw [if_neg (not_not_intro c_6)] at hf
            refine lv_aload_n hx hb dX7_term_101 rfl (lv_at hl 1 rfl) ?_
            refine va_get (D := G) (ci := 5) (v := .ref (qM 3)) (C := RX7) (T := TX7) (N := 13) hx hb hts fin_X7 hown hK.1 hP 0 rfl rfl 6 (by decide) (hts _ wi_677) (fun _ h9 => h9) rfl dX7_term_102 ?_
            refine lv_iload hx hb dX7_term_105 (lv_at hl 0 rfl) ?_
            obtain ⟨hi_13, hf⟩ := oif hf
            refine va_lald hx hb hK.1 hP 3 1 rfl rfl (inb_in hi_13) dX7_term_107 ?_
            refine lv_goto (tgt := 157) hx hb dX7_term_108 (by decide) ?_
            cases hf
            exact W.lret hx hb hr (fun t ht hW => ⟨⟨_, (), rfl, rfl, toT ht hP⟩, hS.F ht⟩) hS.2.2 dX7_term_157 hlocks
      · rw [if_neg (fun h => h ((lg_cmp_eq _ _).mp c_4))] at hf
        refine lv_goto (tgt := 161) hx hb dX7_term_89 (by decide) ?_
        exact b_X7_term_161 qM   C0 kb_36 hkb_36 (fun zM_ x1_ x2_ x3_ x4_ x5_ x6_ => f_X7_term_51 kb_36 fu zM_ x1_ x2_ x3_ x4_ x5_ x6_) ih zM x1 x2 x3 x4 x5 x6 H locs ls hP hD hS (lv_sub hl [1, 2, 3, 4, 5, 6, 7] rfl) hf
def f_X7_term_36  : Nat → MdS → Int32 → Int32 → Int32 → Int32 → Int32 → Option (Int64 × MdS)
  | 0, _, _, _, _, _, _ => none
  | fu + 1, zM, x1, x2, x3, x4, x5 => if (46 : Int32) ≤ x5 then some ((0 : Int64), zM) else if x2 < 0 then some ((0 : Int64), zM) else f_X7_term_51 (fun zM_ x1_ x2_ x3_ x4_ x5_ => f_X7_term_36  fu zM_ x1_ x2_ x3_ x4_ x5_) fuel zM x1 x2 x3 x4 x5 (12 : Int32)
set_option maxHeartbeats 4000000 in
set_option maxRecDepth 100000 in
theorem b_X7_term_36 {p : Program} {l : Launch} {e : Env} {s : State} {m : MethodId} {args : Array Value} {below : List Frame} {meth : Method} {c : Code} {G : va_G} {cA : Nat → ClassId} {W9 : va_W} (qM : Nat → Nat) (C0 : Amb p s m args meth c cX7_term RX7 8 (some .long) G cA (adr W9) []) {res : Int64 × MdS} : ∀ (fu : Nat) (zM : MdS) (x1 : Int32) (x2 : Int32) (x3 : Int32) (x4 : Int32) (x5 : Int32) (H : Heap) (locs : List Loc) (ls : Array Slot), va_P G vwCl ((wMd cA qM zM)) H → va_D (adr W9) ((wMd cA qM zM)) → va_S (adr W9) s.heap H locs → lv_has ls 8 [(0, .ref (qM 0)), (1, .int x1), (2, .int x2), (3, .int x3), (4, .int x4), (5, .int x5)] → f_X7_term_36 fu zM x1 x2 x3 x4 x5 = some res → W p l e rm_X7_term s m args below meth c H locs 0 0 (MQ below (qWl G W9 ((wMd cA qM res.2)) res.1) args s 0 0 (adr W9)) (F0 m 36 ls []) := by
  obtain ⟨hx, hb, hr, hml, hown, hts, hlocks, hK, hR, hRA⟩ := id C0
  intro fu
  induction fu with
  | zero =>
    intro zM x1 x2 x3 x4 x5 H locs ls hP hD hS hl hf
    rw [f_X7_term_36] at hf
    cases hf
  | succ fu ih =>
    intro zM x1 x2 x3 x4 x5 H locs ls hP hD hS hl hf
    rw [f_X7_term_36] at hf
    refine lv_iload hx hb dX7_term_36 (lv_at hl 5 rfl) ?_
    refine lv_bipush (v := (46 : Int32)) hx hb dX7_term_38 (by decide) ?_
    refine lv_icmp_ge (tgt := 173) hx hb dX7_term_40 (by decide) (fun c_1 => ?_) (fun c_1 => ?_)
    · rw [if_pos (c_1)] at hf
      refine lv_lconst (v := (0 : Int64)) hx hb dX7_term_173 (by decide) ?_
      cases hf
      exact W.lret hx hb hr (fun t ht hW => ⟨⟨_, (), rfl, rfl, toT ht hP⟩, hS.F ht⟩) hS.2.2 dX7_term_174 hlocks
    · rw [if_neg (c_1)] at hf
      refine lv_iload_n hx hb dX7_term_43 rfl (lv_at hl 2 rfl) ?_
      refine lv_if_lt (tgt := 173) hx hb dX7_term_44 (by decide) (fun c_2 => ?_) (fun c_2 => ?_)
      · rw [if_pos (c_2)] at hf
        refine lv_lconst (v := (0 : Int64)) hx hb dX7_term_173 (by decide) ?_
        cases hf
        exact W.lret hx hb hr (fun t ht hW => ⟨⟨_, (), rfl, rfl, toT ht hP⟩, hS.F ht⟩) hS.2.2 dX7_term_174 hlocks
      · rw [if_neg (c_2)] at hf
        refine lv_bipush (v := (12 : Int32)) hx hb dX7_term_47 (by decide) ?_
        refine lv_istore (lv' := [(6, .int (12 : Int32)), (0, .ref (qM 0)), (1, .int x1), (2, .int x2), (3, .int x3), (4, .int x4), (5, .int x5)]) hx hb dX7_term_49 hl (by decide) rfl (fun ls hl => ?_)
        exact b_X7_term_51 qM   C0 (fun zM_ x1_ x2_ x3_ x4_ x5_ => f_X7_term_36  fu zM_ x1_ x2_ x3_ x4_ x5_) ih fuel zM x1 x2 x3 x4 x5 (12 : Int32) H locs ls hP hD hS (lv_sub hl [1, 2, 3, 4, 5, 6, 0] rfl) hf
def f_X7_term_22 (zM : MdS) (x1 : Int32) (x2 : Int32) (x3 : Int32) (v1 : Int32) : Option (Int64 × MdS) := (f_X7_refused zM v1).bind fun r_1 => if r_1.1 = 0 then f_X7_term_36 fuel r_1.2 x1 x2 x3 x2 (0 : Int32) else some ((0 : Int64), r_1.2)
set_option maxHeartbeats 4000000 in
set_option maxRecDepth 100000 in
theorem b_X7_term_22 {p : Program} {l : Launch} {e : Env} {s : State} {m : MethodId} {args : Array Value} {below : List Frame} {meth : Method} {c : Code} {G : va_G} {cA : Nat → ClassId} {W9 : va_W} (qM : Nat → Nat) (C0 : Amb p s m args meth c cX7_term RX7 8 (some .long) G cA (adr W9) []) {res : Int64 × MdS} : ∀ (zM : MdS) (x1 : Int32) (x2 : Int32) (x3 : Int32) (v1 : Int32) (H : Heap) (locs : List Loc) (ls : Array Slot), va_P G vwCl ((wMd cA qM zM)) H → va_D (adr W9) ((wMd cA qM zM)) → va_S (adr W9) s.heap H locs → lv_has ls 8 [(0, .ref (qM 0)), (1, .int x1), (2, .int x2), (3, .int x3)] → f_X7_term_22 zM x1 x2 x3 v1 = some res → W p l e rm_X7_term s m args below meth c H locs 0 0 (MQ below (qWl G W9 ((wMd cA qM res.2)) res.1) args s 0 0 (adr W9)) (F0 m 22 ls [.int v1, .ref (qM 0)]) := by
  obtain ⟨hx, hb, hr, hml, hown, hts, hlocks, hK, hR, hRA⟩ := id C0
  intro zM x1 x2 x3 v1 H locs ls hP hD hS hl hf
  unfold f_X7_term_22 at hf
  obtain ⟨r_1, hr_1, hf⟩ := obd hf
  refine cWiV (As := [.int v1]) (rest := []) (W1 := ((wMd cA qM r_1.2))) ⟨hx, hb, hml, hown, hts⟩ (m_X7_refused l G cA qM zM v1 r_1 hr_1) (cw_X7_refused hts wi_723 ⟨Nat.le_of_ble_eq_true rfl, Nat.le_of_ble_eq_true rfl⟩) hK hP hD hS [0, 1, 2, 3, 4] [5, 6, 7, 8, 9] rfl rfl rfl (by decide) rfl va_Pnil dj_nil (va_recv hK.1 hP (ci := 5) (q0 := 0) rfl rfl) rfl hl.1 rfl (Nat.le_of_ble_eq_true rfl) dX7_term_22 ⟨Nat.zero_le _, Nat.zero_le _⟩ (fun H locs hP hD hS => ?_)
  refine lv_if_eq (tgt := 30) hx hb dX7_term_25 (by decide) (fun c_2 => ?_) (fun c_2 => ?_)
  · rw [if_pos (c_2)] at hf
    refine lv_iload_n hx hb dX7_term_30 rfl (lv_at hl 2 rfl) ?_
    refine lv_istore (lv' := [(4, .int x2), (0, .ref (qM 0)), (1, .int x1), (2, .int x2), (3, .int x3)]) hx hb dX7_term_31 hl (by decide) rfl (fun ls hl => ?_)
    refine lv_iconst (v := 0) hx hb dX7_term_33 (by decide) ?_
    refine lv_istore (lv' := [(5, .int (0 : Int32)), (4, .int x2), (0, .ref (qM 0)), (1, .int x1), (2, .int x2), (3, .int x3)]) hx hb dX7_term_34 hl (by decide) rfl (fun ls hl => ?_)
    exact b_X7_term_36 qM   C0  fuel r_1.2 x1 x2 x3 x2 (0 : Int32) H locs ls hP hD hS (lv_sub hl [2, 3, 4, 5, 1, 0] rfl) hf
  · rw [if_neg (c_2)] at hf
    refine lv_lconst (v := (0 : Int64)) hx hb dX7_term_28 (by decide) ?_
    cases hf
    exact W.lret hx hb hr (fun t ht hW => ⟨⟨_, (), rfl, rfl, toT ht hP⟩, hS.F ht⟩) hS.2.2 dX7_term_29 hlocks
def f_X7_term_21 (zM : MdS) (x1 : Int32) (x2 : Int32) (x3 : Int32) : Option (Int64 × MdS) := f_X7_term_22  zM x1 x2 x3 (1 : Int32)
set_option maxHeartbeats 4000000 in
set_option maxRecDepth 100000 in
theorem b_X7_term_21 {p : Program} {l : Launch} {e : Env} {s : State} {m : MethodId} {args : Array Value} {below : List Frame} {meth : Method} {c : Code} {G : va_G} {cA : Nat → ClassId} {W9 : va_W} (qM : Nat → Nat) (C0 : Amb p s m args meth c cX7_term RX7 8 (some .long) G cA (adr W9) []) {res : Int64 × MdS} : ∀ (zM : MdS) (x1 : Int32) (x2 : Int32) (x3 : Int32) (H : Heap) (locs : List Loc) (ls : Array Slot), va_P G vwCl ((wMd cA qM zM)) H → va_D (adr W9) ((wMd cA qM zM)) → va_S (adr W9) s.heap H locs → lv_has ls 8 [(0, .ref (qM 0)), (1, .int x1), (2, .int x2), (3, .int x3)] → f_X7_term_21 zM x1 x2 x3 = some res → W p l e rm_X7_term s m args below meth c H locs 0 0 (MQ below (qWl G W9 ((wMd cA qM res.2)) res.1) args s 0 0 (adr W9)) (F0 m 21 ls [.ref (qM 0)]) := by
  obtain ⟨hx, hb, hr, hml, hown, hts, hlocks, hK, hR, hRA⟩ := id C0
  intro zM x1 x2 x3 H locs ls hP hD hS hl hf
  unfold f_X7_term_21 at hf
  refine lv_iconst (v := 1) hx hb dX7_term_21 (by decide) ?_
  exact b_X7_term_22 qM   C0  zM x1 x2 x3 (1 : Int32) H locs ls hP hD hS (lv_sub hl [0, 1, 2, 3] rfl) hf
def f_X7_term (zM : MdS) (a1 : Int32) (a2 : Int32) (a3 : Int32) : Option (Int64 × MdS) := (f_X7_isSlot a1).bind fun r_1 => if r_1 = 0 then f_X7_term_21  zM a1 a2 a3 else if a3 < 0 then f_X7_term_21  zM a1 a2 a3 else if (4 : Int32) < a3 then f_X7_term_21  zM a1 a2 a3 else f_X7_term_22  zM a1 a2 a3 (0 : Int32)
set_option maxHeartbeats 4000000 in
set_option maxRecDepth 100000 in
theorem b_X7_term_0 {p : Program} {l : Launch} {e : Env} {s : State} {m : MethodId} {args : Array Value} {below : List Frame} {meth : Method} {c : Code} {G : va_G} {cA : Nat → ClassId} {W9 : va_W} (qM : Nat → Nat) (C0 : Amb p s m args meth c cX7_term RX7 8 (some .long) G cA (adr W9) []) {res : Int64 × MdS} : ∀ (zM : MdS) (a1 : Int32) (a2 : Int32) (a3 : Int32) (H : Heap) (locs : List Loc) (ls : Array Slot), va_P G vwCl ((wMd cA qM zM)) H → va_D (adr W9) ((wMd cA qM zM)) → va_S (adr W9) s.heap H locs → lv_has ls 8 [(0, .ref (qM 0)), (1, .int a1), (2, .int a2), (3, .int a3)] → f_X7_term zM a1 a2 a3 = some res → W p l e rm_X7_term s m args below meth c H locs 0 0 (MQ below (qWl G W9 ((wMd cA qM res.2)) res.1) args s 0 0 (adr W9)) (F0 m 0 ls []) := by
  obtain ⟨hx, hb, hr, hml, hown, hts, hlocks, hK, hR, hRA⟩ := id C0
  intro zM a1 a2 a3 H locs ls hP hD hS hl hf
  unfold f_X7_term at hf
  refine lv_aload_n hx hb dX7_term_0 rfl (lv_at hl 0 rfl) ?_
  refine lv_iload_n hx hb dX7_term_1 rfl (lv_at hl 1 rfl) ?_
  obtain ⟨r_1, hr_1, hf⟩ := obd hf
  refine cRiS (As := [.int a1]) (rest := [.ref (qM 0)]) ⟨hx, hb, hml, hown, hts⟩ (m_X7_isSlot l G cA a1 r_1 hr_1) (cw_X7_isSlot hts wi_735 ⟨Nat.le_of_ble_eq_true rfl, Nat.le_of_ble_eq_true rfl⟩) hK va_Pnil rfl hl.1 rfl (Nat.le_of_ble_eq_true rfl) dX7_term_2 ⟨Nat.zero_le _, Nat.zero_le _⟩ ?_
  refine lv_if_eq (tgt := 21) hx hb dX7_term_5 (by decide) (fun c_2 => ?_) (fun c_2 => ?_)
  · rw [if_pos (c_2)] at hf
    exact b_X7_term_21 qM   C0  zM a1 a2 a3 H locs ls hP hD hS (lv_sub hl [0, 1, 2, 3] rfl) hf
  · rw [if_neg (c_2)] at hf
    refine lv_iload_n hx hb dX7_term_8 rfl (lv_at hl 3 rfl) ?_
    refine lv_if_lt (tgt := 21) hx hb dX7_term_9 (by decide) (fun c_3 => ?_) (fun c_3 => ?_)
    · rw [if_pos (c_3)] at hf
      exact b_X7_term_21 qM   C0  zM a1 a2 a3 H locs ls hP hD hS (lv_sub hl [0, 1, 2, 3] rfl) hf
    · rw [if_neg (c_3)] at hf
      refine lv_iload_n hx hb dX7_term_12 rfl (lv_at hl 3 rfl) ?_
      refine lv_iconst (v := 4) hx hb dX7_term_13 (by decide) ?_
      refine lv_icmp_gt (tgt := 21) hx hb dX7_term_14 (by decide) (fun c_4 => ?_) (fun c_4 => ?_)
      · rw [if_pos (c_4)] at hf
        exact b_X7_term_21 qM   C0  zM a1 a2 a3 H locs ls hP hD hS (lv_sub hl [0, 1, 2, 3] rfl) hf
      · rw [if_neg (c_4)] at hf
        refine lv_iconst (v := 0) hx hb dX7_term_17 (by decide) ?_
        refine lv_goto (tgt := 22) hx hb dX7_term_18 (by decide) ?_
        exact b_X7_term_22 qM   C0  zM a1 a2 a3 (0 : Int32) H locs ls hP hD hS (lv_sub hl [0, 1, 2, 3] rfl) hf

set_option maxRecDepth 100000 in
theorem m_X7_term (l : Launch) (G : va_G) (cA : Nat → ClassId) (qM : Nat → Nat) (zM : MdS) (a1 : Int32) (a2 : Int32) (a3 : Int32) (res : Int64 × MdS) (hf : f_X7_term zM a1 a2 a3 = some res) : MWl l yX7_term (.code yX7_term cX7_term 8 (some .long) :: wd) rm_X7_term G cA [.ref (qM 0), .int a1, .int a2, .int a3] ((wMd cA qM zM)) [] ((wMd cA qM res.2)) res.1 := by
  refine Met.ofW (cc := cX7_term) (maxL := 8) (ret := (some .long)) (by decide) rfl ?_
  intro p e s m args below meth c s₁ B hml hv
  obtain ⟨rfl, hK, hP, hD0, hR, hRA⟩ := hv
  have C0 : Amb p s m ([.ref (qM 0), .int a1, .int a2, .int a3] : List Value).toArray meth c cX7_term RX7 8 (some .long) G cA (adr ((wMd cA qM zM))) [] := ⟨B.exec, B.bytes, B.returns, hml, findClass_of_methodNamed B.named, fun w h => atoms_spec (ws := (.code yX7_term cX7_term 8 (some .long) :: wd)) B.pre w (List.mem_cons_of_mem _ h), B.notSynchronized, hK, hR, hRA⟩
  have hl := lv_entry ([.ref (qM 0), .int a1, .int a2, .int a3]) (n := 8) (Nat.le_of_ble_eq_true rfl)
  rw [lg_entry_eq]
  generalize (lg_sl ([.ref (qM 0), .int a1, .int a2, .int a3]) ++ List.replicate (8 - (lg_sl ([.ref (qM 0), .int a1, .int a2, .int a3])).length) Slot.unset).toArray = ls at hl ⊢
  have hl : lv_has ls 8 [(0, .ref (qM 0)), (1, .int a1), (2, .int a2), (3, .int a3)] := hl
  exact b_X7_term_0 (W9 := ((wMd cA qM zM))) qM   C0 zM a1 a2 a3 s.heap [] ls hP (adr.self hD0) va_S.rf hl hf
theorem cw_X7_term {R : Room} {s : State} {args : Array Value} {own : String} {index : Nat} (ht : ∀ w ∈ wd, w.before args s = true) (hlink : Cond.methodLink own index yX7_term ∈ wd) (hR : rm_X7_term.frames + 1 ≤ R.frames ∧ 8 + (8 + 11) + rm_X7_term.locals ≤ R.locals) : CallW R s args own RX7 index yX7_term cX7_term 8 (some .long) (.code yX7_term cX7_term 8 (some .long) :: wd) rm_X7_term 0 0 3 := cwV9 3 ht wi_902 wi_900 wi_901 wi_60 hlink (by decide +kernel) rfl rfl hR
