abbrev tysA (cA : Nat → ClassId) : List (ClassId × FieldType) := [(cA 0, .int), (cA 1, .long), (cA 2, .char), (cA 3, .object "AntiDesk$Sum")]
def nst (U : State) : Prop := va_Nw (.fieldLinkNest "AntiDesk$Reader" 108 "AntiDesk$Line" "length" "I" "AntiDesk") U ∧ va_Nw (.fieldLinkNest "AntiDesk$Reader" 111 "AntiDesk$Line" "characters" "[C" "AntiDesk") U
def kOK (G : va_G) (cA : Nat → ClassId) (U : State) : Prop := va_K G vwCl (tysA cA) U ∧ nst U
theorem kOK.warm {G : va_G} {cA : Nat → ClassId} {s U : State} (hW : s.WarmedH U.vm) (h : kOK G cA s) : kOK G cA U := ⟨va_K.moved hW.alike h.1, va_Nw.warmF hW h.2.1, va_Nw.warmF hW h.2.2⟩
theorem kOK.same {G : va_G} {cA : Nat → ClassId} {u U : State} (e : u.vm = U.vm) (h : kOK G cA u) : kOK G cA U := ⟨va_K.moved (by rw [e]; exact Vm.Alike.refl _) h.1, va_Nw.same rfl e h.2.1, va_Nw.same rfl e h.2.2⟩
def adr (ws : va_W) : Nat → Prop := fun q => ∃ (k : Nat) (e : va_E), ws[k]? = some (q, e)
theorem adr.self {ws : va_W} {A : Nat → Prop} (h : va_D A ws) : va_D (adr ws) ws := ⟨h.1, fun k q hk => ⟨k, q.2, hk⟩⟩
def apart (rs ws : va_W) : Prop := ∀ (k : Nat) (q : Nat × va_E), rs[k]? = some q → ¬ adr ws q.1
def cR (G : va_G) (cA : Nat → ClassId) (av : List Value) (rs : va_W) : Array Value → State → Prop := va_Pc av (fun U => kOK G cA U ∧ va_P G vwCl rs U.heap)
def cW (G : va_G) (cA : Nat → ClassId) (av : List Value) (ws rs : va_W) : Array Value → State → Prop := va_Pc av (fun U => kOK G cA U ∧ va_P G vwCl ws U.heap ∧ va_D (fun _ => True) ws ∧ va_P G vwCl rs U.heap ∧ apart rs ws)
theorem cR.blind {G : va_G} {cA : Nat → ClassId} {av : List Value} {rs : va_W} : FrameBlind (cR G cA av rs) := fun a U g mk q => ⟨q.1, kOK.same (u := U) rfl q.2.1, q.2.2⟩
theorem cW.blind {G : va_G} {cA : Nat → ClassId} {av : List Value} {ws rs : va_W} : FrameBlind (cW G cA av ws rs) := fun a U g mk q => ⟨q.1, kOK.same (u := U) rfl q.2.1, q.2.2⟩
def qWi (G : va_G) (w w' : va_W) (r : Int32) : Array Value → State → Outcome → State → Prop := va_Qi (fun x (_ : Unit) => x = r) (fun _ t => va_P G vwCl w' t.heap) (adr w)
def qWl (G : va_G) (w w' : va_W) (r : Int64) : Array Value → State → Outcome → State → Prop := va_Ql (fun x (_ : Unit) => x = r) (fun _ t => va_P G vwCl w' t.heap) (adr w)
def qWv (G : va_G) (w w' : va_W) : Array Value → State → Outcome → State → Prop := va_Qv (fun (_ : Unit) => True) (fun _ t => va_P G vwCl w' t.heap) (adr w)
def MRi (l : Launch) (y : MethodName) (ws : List Cond) (rm : Room) (G : va_G) (cA : Nat → ClassId) (av : List Value) (rs : va_W) (r : Int32) : Prop := Met l y ws rm (cR G cA av rs) (vp_Si (fun x => x = r)) 0 0 (fun _ => False)
def MRl (l : Launch) (y : MethodName) (ws : List Cond) (rm : Room) (G : va_G) (cA : Nat → ClassId) (av : List Value) (rs : va_W) (r : Int64) : Prop := Met l y ws rm (cR G cA av rs) (vp_Sl (fun x => x = r)) 0 0 (fun _ => False)
def MWi (l : Launch) (y : MethodName) (ws : List Cond) (rm : Room) (G : va_G) (cA : Nat → ClassId) (av : List Value) (w rs w' : va_W) (r : Int32) : Prop := Met l y ws rm (cW G cA av w rs) (qWi G w w' r) 0 0 (adr w)
def MWl (l : Launch) (y : MethodName) (ws : List Cond) (rm : Room) (G : va_G) (cA : Nat → ClassId) (av : List Value) (w rs w' : va_W) (r : Int64) : Prop := Met l y ws rm (cW G cA av w rs) (qWl G w w' r) 0 0 (adr w)
def MWv (l : Launch) (y : MethodName) (ws : List Cond) (rm : Room) (G : va_G) (cA : Nat → ClassId) (av : List Value) (w rs w' : va_W) : Prop := Met l y ws rm (cW G cA av w rs) (qWv G w w') 0 0 (adr w)
theorem pick_at {W0 w : va_W} {is : List Nat} (hs : is.map (fun i => W0[i]?) = w.map some) {k : Nat} {q : Nat × va_E} (hq : w[k]? = some q) : ∃ i, is[k]? = some i ∧ W0[i]? = some q := by
  have h1 : (is.map (fun i => W0[i]?))[k]? = some (some q) := by rw [hs, List.getElem?_map, hq]; rfl
  rw [List.getElem?_map] at h1
  cases hi : is[k]? with
  | none => rw [hi] at h1; cases h1
  | some i => rw [hi] at h1; exact ⟨i, rfl, Option.some.inj h1⟩
theorem pk {G : va_G} {cl : List vw_C} {W0 w : va_W} {H : Heap} (hP : va_P G cl W0 H) (is : List Nat) (hs : is.map (fun i => W0[i]?) = w.map some) : va_P G cl w H := fun k q hq => by
  obtain ⟨i, -, h⟩ := pick_at hs hq
  exact hP i q h
theorem va_D.same {A : Nat → Prop} {W0 W1 : va_W} (h : W1.map Prod.fst = W0.map Prod.fst) (hD : va_D A W0) : va_D A W1 := by
  have at' : ∀ (i : Nat) (p : Nat × va_E), W1[i]? = some p → ∃ p0 : Nat × va_E, W0[i]? = some p0 ∧ p0.1 = p.1 := by
    intro i p hp
    have h1 : (W1.map Prod.fst)[i]? = some p.1 := by rw [List.getElem?_map, hp]; rfl
    rw [h, List.getElem?_map] at h1
    cases h0 : W0[i]? with
    | none => rw [h0] at h1; cases h1
    | some p0 => rw [h0] at h1; exact ⟨p0, rfl, Option.some.inj h1⟩
  refine ⟨fun i j p q hp hq e => ?_, fun k q hq => ?_⟩
  · obtain ⟨p0, h1, e1⟩ := at' i p hp
    obtain ⟨q0, h2, e2⟩ := at' j q hq
    exact hD.1 i j p0 q0 h1 h2 (by rw [e1, e2, e])
  · obtain ⟨q0, h1, e1⟩ := at' k q hq
    rw [← e1]
    exact hD.2 k q0 h1
theorem adr_in {A : Nat → Prop} {W0 w : va_W} (hD : va_D A W0) {is : List Nat} (hs : is.map (fun i => W0[i]?) = w.map some) : ∀ q, adr w q → A q := fun q ⟨k, e, h⟩ => by
  obtain ⟨i, -, h1⟩ := pick_at hs h
  exact hD.2 i _ h1
theorem w_call {G : va_G} {cl : List vw_C} {A : Nat → Prop} {W0 w w' W1 : va_W} {H H1 : Heap} (hP : va_P G cl W0 H) (hD : va_D A W0) (isC isB : List Nat) (hC : isC.map (fun i => W0[i]?) = w.map some) (hB : isB.map (fun i => (W0 ++ w')[i]?) = W1.map some) (hdis : ∀ i ∈ isB, i ∉ isC) (hadr : W1.map Prod.fst = W0.map Prod.fst) (hk : ∀ q : Nat, q < H.size → ¬ adr w q → H1[q]? = H[q]?) (hP1 : va_P G cl w' H1) : va_P G cl W1 H1 ∧ va_D A W1 := by
  refine ⟨fun k q hq => ?_, va_D.same hadr hD⟩
  obtain ⟨i, h1, h2⟩ := pick_at hB hq
  rcases Nat.lt_or_ge i W0.length with hi | hi
  · rw [List.getElem?_append_left hi] at h2
    refine (hP i q h2).kept (hk q.1 (hP i q h2).lt (fun ⟨k2, e, h3⟩ => ?_))
    obtain ⟨j, h4, h5⟩ := pick_at hC h3
    have hij := hD.1 i j q (q.1, e) h2 h5 rfl
    subst hij
    exact hdis i (List.mem_of_getElem? h1) (List.mem_of_getElem? h4)
  · rw [List.getElem?_append_right hi] at h2
    exact hP1 _ q h2
theorem roP {G : va_G} {cl : List vw_C} {A : Nat → Prop} {rs : va_W} {H0 H : Heap} {locs : List Loc} (hR : va_P G cl rs H0) (hRA : ∀ (k : Nat) (q : Nat × va_E), rs[k]? = some q → ¬ A q.1) (hS : va_S A H0 H locs) : va_P G cl rs H := fun k q hq => (hR k q hq).kept (hS.2.1 q.1 (hR k q hq).lt (hRA k q hq))
theorem dj_own {A : Nat → Prop} {W0 w r : va_W} (hD : va_D A W0) {isC : List Nat} (isR : List Nat) (hC : isC.map (fun i => W0[i]?) = w.map some) (hR : isR.map (fun i => W0[i]?) = r.map some) (hdis : ∀ i ∈ isR, i ∉ isC) : apart r w := fun k q hq ⟨k2, e, h3⟩ => by
  obtain ⟨i, h1, h2⟩ := pick_at hR hq
  obtain ⟨j, h4, h5⟩ := pick_at hC h3
  have hij := hD.1 i j q (q.1, e) h2 h5 rfl
  subst hij
  exact hdis i (List.mem_of_getElem? h1) (List.mem_of_getElem? h4)
theorem dj_ro {A : Nat → Prop} {W0 w rs r : va_W} (hD : va_D A W0) (hRA : ∀ (k : Nat) (q : Nat × va_E), rs[k]? = some q → ¬ A q.1) {isC : List Nat} (isR : List Nat) (hC : isC.map (fun i => W0[i]?) = w.map some) (hR : isR.map (fun i => rs[i]?) = r.map some) : apart r w := fun k q hq hz => by
  obtain ⟨i, h1, h2⟩ := pick_at hR hq
  exact hRA i q h2 (adr_in hD hC q.1 hz)
theorem dj_nil {w : va_W} : apart [] w := fun k q hq => by simp at hq
theorem va_Pnil {G : va_G} {cl : List vw_C} {H : Heap} : va_P G cl [] H := fun k q hq => by simp at hq
theorem dj_app {a b w : va_W} (ha : apart a w) (hb : apart b w) : apart (a ++ b) w := fun k q hq => by
  rcases List.mem_append.mp (List.mem_of_getElem? hq) with h | h
  · obtain ⟨i, hi⟩ := List.getElem?_of_mem h
    exact ha i q hi
  · obtain ⟨i, hi⟩ := List.getElem?_of_mem h
    exact hb i q hi
def inb (i : Int32) (n : Nat) : Bool := decide (0 ≤ i.toInt ∧ i.toInt < (n : Int))
theorem inb_in {i : Int32} {n : Nat} (h : inb i n = true) : vp_in i n := vp_in_iff.mpr (of_decide_eq_true h)
def zb (v : Int32) : Bool := v == 0 || v == 1
theorem zb_n {v : Int32} (h : zb v = true) : narrow .boolean (.int v) = .int v := by
  unfold zb at h
  rw [Bool.or_eq_true, beq_iff_eq, beq_iff_eq] at h
  rcases h with rfl | rfl <;> decide
theorem zb_f {v : Int32} (h : zb v = true) : fits .boolean (.int v) = true := by
  unfold zb at h
  rw [Bool.or_eq_true, beq_iff_eq, beq_iff_eq] at h
  rcases h with rfl | rfl <;> decide
def cb (v : Int32) : Bool := vp_nar .char v == v
theorem cb_n {v : Int32} (h : cb v = true) : narrow .char (.int v) = .int v := by
  have h1 : vp_nar .char v = v := by unfold cb at h; exact beq_iff_eq.mp h
  have h2 : narrow .char (.int v) = .int (vp_nar .char v) := rfl
  rw [h2, h1]
theorem oif {α : Type} {c : Prop} [Decidable c] {x : Option α} {r : α} (h : (if c then x else none) = some r) : c ∧ x = some r := by
  by_cases hc : c
  · rw [if_pos hc] at h; exact ⟨hc, h⟩
  · rw [if_neg hc] at h; cases h
theorem obd {α β : Type} {x : Option α} {f : α → Option β} {r : β} (h : x.bind f = some r) : ∃ q, x = some q ∧ f q = some r := by
  cases x with
  | none => cases h
  | some q => exact ⟨q, rfl, h⟩
def fuel : Nat := 12000
section OKC
variable {p : Program} {l : Launch} {e : Env} {R : Room} {s : State} {m : MethodId} {args : Array Value} {below : List Frame} {meth : Method} {c : Code} {H : Heap} {locs : List Loc} {cells slots : Nat} {Q : State → Prop}
variable {y : MethodName} {bytes cc : ByteArray} {maxL nL n index : Nat} {ret : Option FieldType} {ws : List Cond} {rm : Room} {own C : String} {b : Addr} {As rest st0 : List Value} {pc : Nat} {ls : Array Slot}
variable {G : va_G} {cA : Nat → ClassId} {rs w w' W0 W1 : va_W} {A : Nat → Prop} {H0 : Heap}
theorem cwV9 {index : Nat} (n : Nat) (ht : ∀ w ∈ wd, w.before args s = true) (hcode : Cond.code y bytes maxL ret ∈ wd) (hinst : Cond.instanceMethod y ∈ wd) (hsel : Cond.selects C y y ∈ wd) (hini : Cond.initialized C ∈ wd) (hlink : Cond.methodLink own index y ∈ wd)
    (hd : y.cls = C ∧ y.cls ≠ "java/lang/invoke/MethodHandle" ∧ y.cls ≠ "java/lang/invoke/VarHandle" ∧ (parseMethodDescriptor y.desc).map (fun d => d.parameters.length) = some n) (hrc : rm.cells = 0) (hrs : rm.slots = 0) (hR : rm.frames + 1 ≤ R.frames ∧ 8 + (maxL + 11) + rm.locals ≤ R.locals) :
    CallW R s args own C index y bytes maxL ret (Cond.code y bytes maxL ret :: wd) rm 0 0 n := by
  obtain ⟨hC, hd⟩ := hd
  subst hC
  have hG : GoodIn wd (Cond.code y bytes maxL ret :: wd) := fun w h => by
    rcases List.mem_cons.mp h with rfl | h
    · exact ⟨hcode, good_of_word (List.mem_filter.mp hcode).2⟩
    · exact ⟨h, good_of_word (List.mem_filter.mp h).2⟩
  exact ⟨callB_of n ht hG rfl hrc hrs (ht _ hini) (ht _ hlink) hd hR, ht _ hinst, ht _ hsel⟩
theorem cwS9 {index : Nat} (n : Nat) (ht : ∀ w ∈ wd, w.before args s = true) (hcode : Cond.code y bytes maxL ret ∈ wd) (hstat : Cond.static y ∈ wd) (hini : Cond.initialized y.cls ∈ wd) (hlink : Cond.methodLink own index y ∈ wd)
    (hd : y.cls ≠ "java/lang/invoke/MethodHandle" ∧ y.cls ≠ "java/lang/invoke/VarHandle" ∧ (parseMethodDescriptor y.desc).map (fun d => d.parameters.length) = some n) (hrc : rm.cells = 0) (hrs : rm.slots = 0) (hR : rm.frames + 1 ≤ R.frames ∧ 8 + (maxL + 11) + rm.locals ≤ R.locals) :
    CallB R s args own index y bytes maxL ret (Cond.code y bytes maxL ret :: wd) rm 0 0 n ∧ (Cond.static y).before args s = true := by
  have hG : GoodIn wd (Cond.code y bytes maxL ret :: wd) := fun w h => by
    rcases List.mem_cons.mp h with rfl | h
    · exact ⟨hcode, good_of_word (List.mem_filter.mp hcode).2⟩
    · exact ⟨h, good_of_word (List.mem_filter.mp h).2⟩
  exact ⟨callB_of n ht hG rfl hrc hrs (ht _ hini) (ht _ hlink) hd hR, ht _ hstat⟩
theorem cRiV {r : Int32} (S : CallFix p m c cc nL s args wd own) (hM : MRi l y ws rm G cA (.ref b :: As) rs r) (cw : CallW R s args own C index y bytes maxL ret ws rm 0 0 n) (hk : kOK G cA s) (hP : va_P G vwCl rs H) (hrecv : ∃ cellB : Cell, H[b]? = some cellB ∧ cellB.vm.isStatics = false ∧ s.vm.findClass C = some cellB.cls)
    (hn : As.length = n) (hsize : ls.size = nL) (hst : st0 = As.reverse ++ .ref b :: rest) (hW : (rest.map fun v => v.category).sum ≤ 8) (hdg : decode cc pc = .ok (.invokevirtual index, 3)) (hf : cells + 0 ≤ R.cells ∧ slots + 0 ≤ R.slots)
    (kk : W p l e R s m args below meth c H locs cells slots Q (F0 m (pc + 3) ls (.int r :: rest))) : W p l e R s m args below meth c H locs cells slots Q (F0 m pc ls st0) :=
  vp_callSi (W.runV (g := F0 m pc ls st0) S hM cw ⟨cR.blind, hrecv, fun U hU hW => ⟨rfl, hk.warm hW, by rw [hU]; exact hP⟩⟩ rfl hn hsize hst (lv_room hW) hdg hf) (fun x hx => by rw [hx]; exact kk)
theorem cRlV {r : Int64} (S : CallFix p m c cc nL s args wd own) (hM : MRl l y ws rm G cA (.ref b :: As) rs r) (cw : CallW R s args own C index y bytes maxL ret ws rm 0 0 n) (hk : kOK G cA s) (hP : va_P G vwCl rs H) (hrecv : ∃ cellB : Cell, H[b]? = some cellB ∧ cellB.vm.isStatics = false ∧ s.vm.findClass C = some cellB.cls)
    (hn : As.length = n) (hsize : ls.size = nL) (hst : st0 = As.reverse ++ .ref b :: rest) (hW : (rest.map fun v => v.category).sum ≤ 8) (hdg : decode cc pc = .ok (.invokevirtual index, 3)) (hf : cells + 0 ≤ R.cells ∧ slots + 0 ≤ R.slots)
    (kk : W p l e R s m args below meth c H locs cells slots Q (F0 m (pc + 3) ls (.long r :: rest))) : W p l e R s m args below meth c H locs cells slots Q (F0 m pc ls st0) :=
  vp_callSl (W.runV (g := F0 m pc ls st0) S hM cw ⟨cR.blind, hrecv, fun U hU hW => ⟨rfl, hk.warm hW, by rw [hU]; exact hP⟩⟩ rfl hn hsize hst (lv_room hW) hdg hf) (fun x hx => by rw [hx]; exact kk)
theorem cRiS {r : Int32} (S : CallFix p m c cc nL s args wd own) (hM : MRi l y ws rm G cA As rs r) (cw : CallB R s args own index y bytes maxL ret ws rm 0 0 n ∧ (Cond.static y).before args s = true) (hk : kOK G cA s) (hP : va_P G vwCl rs H)
    (hn : As.length = n) (hsize : ls.size = nL) (hst : st0 = As.reverse ++ rest) (hW : (rest.map fun v => v.category).sum ≤ 8) (hdg : decode cc pc = .ok (.invokestatic index, 3)) (hf : cells + 0 ≤ R.cells ∧ slots + 0 ≤ R.slots)
    (kk : W p l e R s m args below meth c H locs cells slots Q (F0 m (pc + 3) ls (.int r :: rest))) : W p l e R s m args below meth c H locs cells slots Q (F0 m pc ls st0) :=
  vp_callSi (W.runS (g := F0 m pc ls st0) S hM cw ⟨cR.blind, fun U hU hW => ⟨rfl, hk.warm hW, by rw [hU]; exact hP⟩⟩ rfl hn hsize hst (lv_room hW) hdg hf) (fun x hx => by rw [hx]; exact kk)
theorem cRlS {r : Int64} (S : CallFix p m c cc nL s args wd own) (hM : MRl l y ws rm G cA As rs r) (cw : CallB R s args own index y bytes maxL ret ws rm 0 0 n ∧ (Cond.static y).before args s = true) (hk : kOK G cA s) (hP : va_P G vwCl rs H)
    (hn : As.length = n) (hsize : ls.size = nL) (hst : st0 = As.reverse ++ rest) (hW : (rest.map fun v => v.category).sum ≤ 8) (hdg : decode cc pc = .ok (.invokestatic index, 3)) (hf : cells + 0 ≤ R.cells ∧ slots + 0 ≤ R.slots)
    (kk : W p l e R s m args below meth c H locs cells slots Q (F0 m (pc + 3) ls (.long r :: rest))) : W p l e R s m args below meth c H locs cells slots Q (F0 m pc ls st0) :=
  vp_callSl (W.runS (g := F0 m pc ls st0) S hM cw ⟨cR.blind, fun U hU hW => ⟨rfl, hk.warm hW, by rw [hU]; exact hP⟩⟩ rfl hn hsize hst (lv_room hW) hdg hf) (fun x hx => by rw [hx]; exact kk)
theorem pre9 (hk : kOK G cA s) (hP : va_P G vwCl W0 H) (hD : va_D A W0) {isC : List Nat} (hC : isC.map (fun i => W0[i]?) = w.map some) (hnC : va_nd isC = true) (hR : va_P G vwCl rs H) (hRd : apart rs w) {av : List Value} : ∀ U : State, U.heap = H → s.WarmedH U.vm → cW G cA av w rs av.toArray U := fun U hU hW => ⟨rfl, hk.warm hW, by rw [hU]; exact pk hP isC hC, (hD.sub isC hnC hC).weaken (fun _ _ _ _ => trivial), by rw [hU]; exact hR, hRd⟩
theorem cWiV {r : Int32} (S : CallFix p m c cc nL s args wd own) (hM : MWi l y ws rm G cA (.ref b :: As) w rs w' r) (cw : CallW R s args own C index y bytes maxL ret ws rm 0 0 n) (hk : kOK G cA s) (hP : va_P G vwCl W0 H) (hD : va_D A W0) (hS : va_S A H0 H locs) (isC isB : List Nat) (hC : isC.map (fun i => W0[i]?) = w.map some) (hnC : va_nd isC = true) (hB : isB.map (fun i => (W0 ++ w')[i]?) = W1.map some) (hdis : ∀ i ∈ isB, i ∉ isC) (hadr : W1.map Prod.fst = W0.map Prod.fst) (hR : va_P G vwCl rs H) (hRd : apart rs w) (hrecv : ∃ cellB : Cell, H[b]? = some cellB ∧ cellB.vm.isStatics = false ∧ s.vm.findClass C = some cellB.cls)
    (hn : As.length = n) (hsize : ls.size = nL) (hst : st0 = As.reverse ++ .ref b :: rest) (hW : (rest.map fun v => v.category).sum ≤ 8) (hdg : decode cc pc = .ok (.invokevirtual index, 3)) (hf : cells + 0 ≤ R.cells ∧ slots + 0 ≤ R.slots)
    (kk : ∀ (H1 : Heap) (locs1 : List Loc), va_P G vwCl W1 H1 → va_D A W1 → va_S A H0 H1 locs1 → W p l e R s m args below meth c H1 locs1 cells slots Q (F0 m (pc + 3) ls (.int r :: rest))) : W p l e R s m args below meth c H locs cells slots Q (F0 m pc ls st0) := by
  refine va_calli (va_runV (g := F0 m pc ls st0) S hM cw ⟨cW.blind, hrecv, pre9 hk hP hD hC hnC hR hRd⟩ rfl hn hsize hst (lv_room hW) hdg hf) hS (fun q _ h => adr_in hD hC q h) (adr_in hD hC) (fun x u t H1 locs1 ht hvm hw hB1 hz1 hk1 hS1 => ?_)
  obtain ⟨hP2, hD2⟩ := w_call hP hD isC isB hC hB hdis hadr hk1 (by rw [← ht]; exact hB1)
  subst hw
  exact kk H1 locs1 hP2 hD2 hS1
theorem cWlV {r : Int64} (S : CallFix p m c cc nL s args wd own) (hM : MWl l y ws rm G cA (.ref b :: As) w rs w' r) (cw : CallW R s args own C index y bytes maxL ret ws rm 0 0 n) (hk : kOK G cA s) (hP : va_P G vwCl W0 H) (hD : va_D A W0) (hS : va_S A H0 H locs) (isC isB : List Nat) (hC : isC.map (fun i => W0[i]?) = w.map some) (hnC : va_nd isC = true) (hB : isB.map (fun i => (W0 ++ w')[i]?) = W1.map some) (hdis : ∀ i ∈ isB, i ∉ isC) (hadr : W1.map Prod.fst = W0.map Prod.fst) (hR : va_P G vwCl rs H) (hRd : apart rs w) (hrecv : ∃ cellB : Cell, H[b]? = some cellB ∧ cellB.vm.isStatics = false ∧ s.vm.findClass C = some cellB.cls)
    (hn : As.length = n) (hsize : ls.size = nL) (hst : st0 = As.reverse ++ .ref b :: rest) (hW : (rest.map fun v => v.category).sum ≤ 8) (hdg : decode cc pc = .ok (.invokevirtual index, 3)) (hf : cells + 0 ≤ R.cells ∧ slots + 0 ≤ R.slots)
    (kk : ∀ (H1 : Heap) (locs1 : List Loc), va_P G vwCl W1 H1 → va_D A W1 → va_S A H0 H1 locs1 → W p l e R s m args below meth c H1 locs1 cells slots Q (F0 m (pc + 3) ls (.long r :: rest))) : W p l e R s m args below meth c H locs cells slots Q (F0 m pc ls st0) := by
  refine va_calll (va_runV (g := F0 m pc ls st0) S hM cw ⟨cW.blind, hrecv, pre9 hk hP hD hC hnC hR hRd⟩ rfl hn hsize hst (lv_room hW) hdg hf) hS (fun q _ h => adr_in hD hC q h) (adr_in hD hC) (fun x u t H1 locs1 ht hvm hw hB1 hz1 hk1 hS1 => ?_)
  obtain ⟨hP2, hD2⟩ := w_call hP hD isC isB hC hB hdis hadr hk1 (by rw [← ht]; exact hB1)
  subst hw
  exact kk H1 locs1 hP2 hD2 hS1
theorem cWvV (S : CallFix p m c cc nL s args wd own) (hM : MWv l y ws rm G cA (.ref b :: As) w rs w') (cw : CallW R s args own C index y bytes maxL ret ws rm 0 0 n) (hk : kOK G cA s) (hP : va_P G vwCl W0 H) (hD : va_D A W0) (hS : va_S A H0 H locs) (isC isB : List Nat) (hC : isC.map (fun i => W0[i]?) = w.map some) (hnC : va_nd isC = true) (hB : isB.map (fun i => (W0 ++ w')[i]?) = W1.map some) (hdis : ∀ i ∈ isB, i ∉ isC) (hadr : W1.map Prod.fst = W0.map Prod.fst) (hR : va_P G vwCl rs H) (hRd : apart rs w) (hrecv : ∃ cellB : Cell, H[b]? = some cellB ∧ cellB.vm.isStatics = false ∧ s.vm.findClass C = some cellB.cls)
    (hn : As.length = n) (hsize : ls.size = nL) (hst : st0 = As.reverse ++ .ref b :: rest) (hW : (rest.map fun v => v.category).sum ≤ 8) (hdg : decode cc pc = .ok (.invokevirtual index, 3)) (hf : cells + 0 ≤ R.cells ∧ slots + 0 ≤ R.slots)
    (kk : ∀ (H1 : Heap) (locs1 : List Loc), va_P G vwCl W1 H1 → va_D A W1 → va_S A H0 H1 locs1 → W p l e R s m args below meth c H1 locs1 cells slots Q (F0 m (pc + 3) ls rest)) : W p l e R s m args below meth c H locs cells slots Q (F0 m pc ls st0) := by
  refine va_callv (va_runV (g := F0 m pc ls st0) S hM cw ⟨cW.blind, hrecv, pre9 hk hP hD hC hnC hR hRd⟩ rfl hn hsize hst (lv_room hW) hdg hf) hS (fun q _ h => adr_in hD hC q h) (adr_in hD hC) (fun u t H1 locs1 ht hvm hw hB1 hz1 hk1 hS1 => ?_)
  obtain ⟨hP2, hD2⟩ := w_call hP hD isC isB hC hB hdis hadr hk1 (by rw [← ht]; exact hB1)
  exact kk H1 locs1 hP2 hD2 hS1
theorem cWiS {r : Int32} (S : CallFix p m c cc nL s args wd own) (hM : MWi l y ws rm G cA As w rs w' r) (cw : CallB R s args own index y bytes maxL ret ws rm 0 0 n ∧ (Cond.static y).before args s = true) (hk : kOK G cA s) (hP : va_P G vwCl W0 H) (hD : va_D A W0) (hS : va_S A H0 H locs) (isC isB : List Nat) (hC : isC.map (fun i => W0[i]?) = w.map some) (hnC : va_nd isC = true) (hB : isB.map (fun i => (W0 ++ w')[i]?) = W1.map some) (hdis : ∀ i ∈ isB, i ∉ isC) (hadr : W1.map Prod.fst = W0.map Prod.fst) (hR : va_P G vwCl rs H) (hRd : apart rs w)
    (hn : As.length = n) (hsize : ls.size = nL) (hst : st0 = As.reverse ++ rest) (hW : (rest.map fun v => v.category).sum ≤ 8) (hdg : decode cc pc = .ok (.invokestatic index, 3)) (hf : cells + 0 ≤ R.cells ∧ slots + 0 ≤ R.slots)
    (kk : ∀ (H1 : Heap) (locs1 : List Loc), va_P G vwCl W1 H1 → va_D A W1 → va_S A H0 H1 locs1 → W p l e R s m args below meth c H1 locs1 cells slots Q (F0 m (pc + 3) ls (.int r :: rest))) : W p l e R s m args below meth c H locs cells slots Q (F0 m pc ls st0) := by
  refine va_calli (va_runS (g := F0 m pc ls st0) S hM cw ⟨cW.blind, pre9 hk hP hD hC hnC hR hRd⟩ rfl hn hsize hst (lv_room hW) hdg hf) hS (fun q _ h => adr_in hD hC q h) (adr_in hD hC) (fun x u t H1 locs1 ht hvm hw hB1 hz1 hk1 hS1 => ?_)
  obtain ⟨hP2, hD2⟩ := w_call hP hD isC isB hC hB hdis hadr hk1 (by rw [← ht]; exact hB1)
  subst hw
  exact kk H1 locs1 hP2 hD2 hS1
theorem cWvS (S : CallFix p m c cc nL s args wd own) (hM : MWv l y ws rm G cA As w rs w') (cw : CallB R s args own index y bytes maxL ret ws rm 0 0 n ∧ (Cond.static y).before args s = true) (hk : kOK G cA s) (hP : va_P G vwCl W0 H) (hD : va_D A W0) (hS : va_S A H0 H locs) (isC isB : List Nat) (hC : isC.map (fun i => W0[i]?) = w.map some) (hnC : va_nd isC = true) (hB : isB.map (fun i => (W0 ++ w')[i]?) = W1.map some) (hdis : ∀ i ∈ isB, i ∉ isC) (hadr : W1.map Prod.fst = W0.map Prod.fst) (hR : va_P G vwCl rs H) (hRd : apart rs w)
    (hn : As.length = n) (hsize : ls.size = nL) (hst : st0 = As.reverse ++ rest) (hW : (rest.map fun v => v.category).sum ≤ 8) (hdg : decode cc pc = .ok (.invokestatic index, 3)) (hf : cells + 0 ≤ R.cells ∧ slots + 0 ≤ R.slots)
    (kk : ∀ (H1 : Heap) (locs1 : List Loc), va_P G vwCl W1 H1 → va_D A W1 → va_S A H0 H1 locs1 → W p l e R s m args below meth c H1 locs1 cells slots Q (F0 m (pc + 3) ls rest)) : W p l e R s m args below meth c H locs cells slots Q (F0 m pc ls st0) := by
  refine va_callv (va_runS (g := F0 m pc ls st0) S hM cw ⟨cW.blind, pre9 hk hP hD hC hnC hR hRd⟩ rfl hn hsize hst (lv_room hW) hdg hf) hS (fun q _ h => adr_in hD hC q h) (adr_in hD hC) (fun u t H1 locs1 ht hvm hw hB1 hz1 hk1 hS1 => ?_)
  obtain ⟨hP2, hD2⟩ := w_call hP hD isC isB hC hB hdis hadr hk1 (by rw [← ht]; exact hB1)
  exact kk H1 locs1 hP2 hD2 hS1
end OKC
def Amb (p : Program) (s : State) (m : MethodId) (args : Array Value) (meth : Method) (c : Code) (cc : ByteArray) (own : String) (nL : Nat) (ret : Option FieldType) (G : va_G) (cA : Nat → ClassId) (A : Nat → Prop) (rs : va_W) : Prop :=
  p.tables.exec = Jvm.exec ∧ c.code = cc ∧ meth.sig.returnType = ret ∧ c.maxLocals = nL ∧ s.vm.findClass own = some m.cls ∧ (∀ w ∈ wd, w.before args s = true) ∧ meth.locks = false ∧ kOK G cA s ∧ va_P G vwCl rs s.heap ∧ ∀ (k : Nat) (q : Nat × va_E), rs[k]? = some q → ¬ A q.1
theorem toT {G : va_G} {cl : List vw_C} {w : va_W} {H : Heap} {t : State} (ht : t.heap = H) (hP : va_P G cl w H) : va_P G cl w t.heap := by rw [ht]; exact hP
def mabs32 (x : Int32) : Int32 := if 0 ≤ x then x else 0 - x
def mabs64 (x : Int64) : Int64 := if 0 < x then x else -x
def mmax32 (x y : Int32) : Int32 := if x < y then y else x
def mmin32 (x y : Int32) : Int32 := if y < x then y else x
theorem wm_abs32 : Cond.code Lib.Math.abs.name Lib.Math.abs.code 1 (some .int) ∈ wd := wi_443
theorem wm_abs64 : Cond.code Lib.MathLoose.abs_long.x Lib.MathLoose.abs_long.code 2 (some .long) ∈ wd := wi_419
theorem wm_max32 : Cond.code Lib.Math.max.name Lib.Math.max.code 2 (some .int) ∈ wd := wi_586
theorem wm_min32 : Cond.code Lib.Math.min.name Lib.Math.min.code 2 (some .int) ∈ wd := wi_459
section OKM
variable {p : Program} {l : Launch} {e : Env} {R : Room} {s : State} {m : MethodId} {args : Array Value} {below : List Frame} {meth : Method} {c : Code} {H : Heap} {locs : List Loc} {cells slots : Nat} {Q : State → Prop} {cc : ByteArray} {pc : Nat} {ls : Array Slot} {rest : List Value} {own : String} {index : Nat}
theorem k_abs32 (hexec : p.tables.exec = Jvm.exec) (hb : c.code = cc) (hml : c.maxLocals = ls.size) (hown : s.vm.findClass own = some m.cls) (hts : ∀ w ∈ wd, w.before args s = true) (hlink : Cond.methodLink own index yJ9_abs_0f7a4 ∈ wd) (hframes : 1 ≤ R.frames) (hlocals : (rest.map fun v => v.category).sum + 13 ≤ R.locals) (hc : cells ≤ R.cells) (hs : slots ≤ R.slots) {x : Int32} (hdg : decode cc pc = .ok (.invokestatic index, 3))
    (kk : W p l e R s m args below meth c H locs cells slots Q (F0 m (pc + 3) ls (.int (mabs32 x) :: rest))) : W p l e R s m args below meth c H locs cells slots Q (F0 m pc ls (.int x :: rest)) :=
  va_mabs hexec hb hml hown (hts _ hlink) (hts _ wi_442) (hts _ wi_66) (hts _ wm_abs32) hframes hlocals hc hs hdg kk
theorem k_abs64 (hexec : p.tables.exec = Jvm.exec) (hb : c.code = cc) (hml : c.maxLocals = ls.size) (hown : s.vm.findClass own = some m.cls) (hts : ∀ w ∈ wd, w.before args s = true) (hlink : Cond.methodLink own index yJ9_abs_067f4 ∈ wd) (hframes : 1 ≤ R.frames) (hlocals : (rest.map fun v => v.category).sum + 13 ≤ R.locals) (hc : cells ≤ R.cells) (hs : slots ≤ R.slots) {x : Int64} (hdg : decode cc pc = .ok (.invokestatic index, 3))
    (kk : W p l e R s m args below meth c H locs cells slots Q (F0 m (pc + 3) ls (.long (mabs64 x) :: rest))) : W p l e R s m args below meth c H locs cells slots Q (F0 m pc ls (.long x :: rest)) :=
  va_mabs_long hexec hb hml hown (hts _ hlink) (hts _ wi_418) (hts _ wi_66) (hts _ wm_abs64) hframes hlocals hc hs hdg kk
theorem k_max32 (hexec : p.tables.exec = Jvm.exec) (hb : c.code = cc) (hml : c.maxLocals = ls.size) (hown : s.vm.findClass own = some m.cls) (hts : ∀ w ∈ wd, w.before args s = true) (hlink : Cond.methodLink own index yJ9_max_7cf53 ∈ wd) (hframes : 1 ≤ R.frames) (hlocals : (rest.map fun v => v.category).sum + 13 ≤ R.locals) (hc : cells ≤ R.cells) (hs : slots ≤ R.slots) {x y : Int32} (hdg : decode cc pc = .ok (.invokestatic index, 3))
    (kk : W p l e R s m args below meth c H locs cells slots Q (F0 m (pc + 3) ls (.int (mmax32 x y) :: rest))) : W p l e R s m args below meth c H locs cells slots Q (F0 m pc ls (.int y :: .int x :: rest)) :=
  va_mmax hexec hb hml hown (hts _ hlink) (hts _ wi_585) (hts _ wi_66) (hts _ wm_max32) hframes hlocals hc hs hdg kk
theorem k_min32 (hexec : p.tables.exec = Jvm.exec) (hb : c.code = cc) (hml : c.maxLocals = ls.size) (hown : s.vm.findClass own = some m.cls) (hts : ∀ w ∈ wd, w.before args s = true) (hlink : Cond.methodLink own index yJ9_min_7cf53 ∈ wd) (hframes : 1 ≤ R.frames) (hlocals : (rest.map fun v => v.category).sum + 13 ≤ R.locals) (hc : cells ≤ R.cells) (hs : slots ≤ R.slots) {x y : Int32} (hdg : decode cc pc = .ok (.invokestatic index, 3))
    (kk : W p l e R s m args below meth c H locs cells slots Q (F0 m (pc + 3) ls (.int (mmin32 x y) :: rest))) : W p l e R s m args below meth c H locs cells slots Q (F0 m pc ls (.int y :: .int x :: rest)) :=
  va_mmin hexec hb hml hown (hts _ hlink) (hts _ wi_458) (hts _ wi_66) (hts _ wm_min32) hframes hlocals hc hs hdg kk
end OKM
