def R_law : String := "AntiDeskLaw"
def lw_P (b : Addr) (xs : List Int32) (args : Array Value) (s : State) : Prop := args = #[.ref b] ∧ s.IntsAt b xs ∧ xs.length ≤ 3072 ∧ (Jvm.Cond.and given_1 narrow_1).before args s = true
def lw_Q (_ : Array Value) (s : State) (o : Outcome) (t : State) : Prop := o = .returned (some (.int 1)) ∧ Framed s o t [] 601024 7293034
def lw_Z (below : List Frame) (a : Array Value) (s : State) : State → Prop := fun t => ∃ o, t.status = .running ∧ Ended t below o ∧ lw_Q a s o t
theorem lw_ret {p : Program} {l : Launch} {e : Env} {s : State} {m : MethodId} {below : List Frame} {meth : Method} {c : Code} {b : Nat} (hx : p.tables.exec = Jvm.exec) (hb : c.code = code) (hr : meth.sig.returnType = ret) (hlocks : meth.locks = false) {pc : Nat} {H : Heap} {ls : Array Slot} (hdg : decode code pc = .ok (.ireturn, 1)) : W p l e room_1 s m #[Value.ref b] below meth c H [] 601024 7293034 (lw_Z below #[Value.ref b] s) (F0 m pc ls [.int 1]) := by
  intro T hT X
  obtain ⟨fs, hret, hrun, hended, hW, hframe⟩ := X.leave (v := some (.int 1)) (hlocks := hlocks) (fun h => by rw [hr] at h; cases h)
  have hmeth' : T.vm.method? m = some meth := X.method'
  refine ⟨T.setFrames fs, ?_, .returned (some (.int 1)), hrun, hended, rfl, ⟨_, rfl⟩, hW, hframe⟩
  jvm_step X.here [X.here.top, hx, hb, hdg, hmeth', hr, ret, narrow_b1]
  (try refine ⟨rfl, ?_⟩); (try refine ⟨rfl, ?_⟩)
  first | (intro acts; rw [hret _ acts rfl rfl rfl]) | rw [hret _ _ rfl rfl rfl]
  exact Steps.refl _
def lw_At (p : Program) (s : State) (m : MethodId) (meth : Method) (c : Code) (b L : Nat) (xs : Nat → Int32) : Prop :=
  p.tables.exec = Jvm.exec ∧ c.code = code ∧ meth.sig.returnType = ret ∧ c.maxLocals = 8 ∧ s.vm.findClass R_law = some m.cls ∧ (∀ w ∈ lw_tbl, w.before #[Value.ref b] s = true) ∧ va_X b L xs s s.heap ∧ b < s.heap.size ∧ meth.locks = false ∧ (Jvm.Cond.and given_1 narrow_1).before #[Value.ref b] s = true
abbrev lawIs_D : List Nat := [0, 1, 2, 3, 4, 5, 6, 7, 8, 9, 10, 11, 12, 13, 14, 15, 16, 17, 18, 19, 20, 21, 22, 23, 24, 25, 26, 27, 28, 29, 30, 31, 32, 33, 34, 35, 36, 37, 38, 39, 40, 41, 42, 43, 44, 45, 46]
abbrev lawBs_D : List Nat := [53, 54, 55, 56, 57, 58, 59, 60, 61, 62, 63, 64, 65, 66, 67, 68, 69, 70, 71, 72, 73, 74, 75, 76, 77, 78, 79, 80, 81, 82, 83, 84, 85, 86, 87, 88, 89, 90, 91, 92, 93, 94, 95, 96, 97, 98, 99, 47, 48, 49, 50, 51, 52]
theorem lawC_D (cA : Nat → ClassId) (Q : Nat → Nat → Nat) (qM qO : Nat → Nat) (zD : DeskS) (zM : MdS) (zO : OutS) : lawIs_D.map (fun i => (wDesk cA Q zD ++ (wMd cA qM zM ++ wOut cA qO zO))[i]?) = (wDesk cA Q zD).map some := rfl
theorem lawB_D (cA : Nat → ClassId) (Q : Nat → Nat → Nat) (qM qO : Nat → Nat) (zD : DeskS) (zM : MdS) (zO : OutS) (vD : DeskS) : lawBs_D.map (fun i => ((wDesk cA Q zD ++ (wMd cA qM zM ++ wOut cA qO zO)) ++ wDesk cA Q vD)[i]?) = (wDesk cA Q vD ++ (wMd cA qM zM ++ wOut cA qO zO)).map some := rfl
abbrev lawIs_M : List Nat := [47, 48, 49, 50, 51]
abbrev lawBs_M : List Nat := [0, 1, 2, 3, 4, 5, 6, 7, 8, 9, 10, 11, 12, 13, 14, 15, 16, 17, 18, 19, 20, 21, 22, 23, 24, 25, 26, 27, 28, 29, 30, 31, 32, 33, 34, 35, 36, 37, 38, 39, 40, 41, 42, 43, 44, 45, 46, 53, 54, 55, 56, 57, 52]
theorem lawC_M (cA : Nat → ClassId) (Q : Nat → Nat → Nat) (qM qO : Nat → Nat) (zD : DeskS) (zM : MdS) (zO : OutS) : lawIs_M.map (fun i => (wDesk cA Q zD ++ (wMd cA qM zM ++ wOut cA qO zO))[i]?) = (wMd cA qM zM).map some := rfl
theorem lawB_M (cA : Nat → ClassId) (Q : Nat → Nat → Nat) (qM qO : Nat → Nat) (zD : DeskS) (zM : MdS) (zO : OutS) (vM : MdS) : lawBs_M.map (fun i => ((wDesk cA Q zD ++ (wMd cA qM zM ++ wOut cA qO zO)) ++ wMd cA qM vM)[i]?) = (wDesk cA Q zD ++ (wMd cA qM vM ++ wOut cA qO zO)).map some := rfl
abbrev lawIs_DO : List Nat := [0, 1, 2, 3, 4, 5, 6, 7, 8, 9, 10, 11, 12, 13, 14, 15, 16, 17, 18, 19, 20, 21, 22, 23, 24, 25, 26, 27, 28, 29, 30, 31, 32, 33, 34, 35, 36, 37, 38, 39, 40, 41, 42, 43, 44, 45, 46, 52]
abbrev lawBs_DO : List Nat := [53, 54, 55, 56, 57, 58, 59, 60, 61, 62, 63, 64, 65, 66, 67, 68, 69, 70, 71, 72, 73, 74, 75, 76, 77, 78, 79, 80, 81, 82, 83, 84, 85, 86, 87, 88, 89, 90, 91, 92, 93, 94, 95, 96, 97, 98, 99, 47, 48, 49, 50, 51, 100]
theorem lawC_DO (cA : Nat → ClassId) (Q : Nat → Nat → Nat) (qM qO : Nat → Nat) (zD : DeskS) (zM : MdS) (zO : OutS) : lawIs_DO.map (fun i => (wDesk cA Q zD ++ (wMd cA qM zM ++ wOut cA qO zO))[i]?) = (wDesk cA Q zD ++ wOut cA qO zO).map some := rfl
theorem lawB_DO (cA : Nat → ClassId) (Q : Nat → Nat → Nat) (qM qO : Nat → Nat) (zD : DeskS) (zM : MdS) (zO : OutS) (vD : DeskS) (vO : OutS) : lawBs_DO.map (fun i => ((wDesk cA Q zD ++ (wMd cA qM zM ++ wOut cA qO zO)) ++ (wDesk cA Q vD ++ wOut cA qO vO))[i]?) = (wDesk cA Q vD ++ (wMd cA qM zM ++ wOut cA qO vO)).map some := rfl
theorem lawAdr (cA : Nat → ClassId) (Q : Nat → Nat → Nat) (qM qO : Nat → Nat) (zD : DeskS) (zM : MdS) (zO : OutS) (vD : DeskS) (vM : MdS) (vO : OutS) : (wDesk cA Q vD ++ (wMd cA qM vM ++ wOut cA qO vO)).map Prod.fst = (wDesk cA Q zD ++ (wMd cA qM zM ++ wOut cA qO zO)).map Prod.fst := rfl
def f_L_law_917 (xs : Nat → Int32) (L : Nat) (kb_23 : DeskS → MdS → OutS → Int32 → Option (Int32)) (zD : DeskS) (zM : MdS) (zO : OutS) (x4 : Int32) : Option (Int32) := kb_23 zD zM zO (x4 + 6)
set_option maxHeartbeats 4000000 in
set_option maxRecDepth 100000 in
theorem b_L_law_917 {p : Program} {l : Launch} {e : Env} {s : State} {m : MethodId} {below : List Frame} {meth : Method} {c : Code} {b L : Nat} {xs : Nat → Int32} {G : va_G} {cA : Nat → ClassId} {sa : Nat → Nat} (Q : Nat → Nat → Nat) (qM qO : Nat → Nat) (htr : l.stackTraces = false) (C0 : lw_At p s m meth c b L xs) (hK : kOK G cA s) (hxh : xH (fun q : Nat => s.heap.size ≤ q) sa s) (bf : Nat) (kb_23 : DeskS → MdS → OutS → Int32 → Option (Int32)) (hkb_23 : ∀ (zD : DeskS) (zM : MdS) (zO : OutS) (x4 : Int32) (H : Heap) (locs : List Loc) (ls : Array Slot) (cells slots : Nat), cells + bf ≤ 601024 → slots + 6 * bf ≤ 7293034 → va_P G vwCl (wDesk cA Q zD ++ (wMd cA qM zM ++ wOut cA qO zO)) H → va_D (fun q : Nat => s.heap.size ≤ q) (wDesk cA Q zD ++ (wMd cA qM zM ++ wOut cA qO zO)) → va_S (fun q : Nat => s.heap.size ≤ q) s.heap H locs → lv_has ls 8 [(0, .ref (b)), (1, .ref (Q 0 0)), (2, .ref (qM 0)), (3, .ref (qO 0)), (4, .int x4)] → kb_23 zD zM zO x4 = some 1 → W p l e room_1 s m #[Value.ref b] below meth c H locs cells slots (lw_Z below #[Value.ref b] s) (F0 m 23 ls [])) : ∀ (zD : DeskS) (zM : MdS) (zO : OutS) (x4 : Int32) (H : Heap) (locs : List Loc) (ls : Array Slot) (cells slots : Nat), cells + bf ≤ 601024 → slots + 6 * bf ≤ 7293034 → va_P G vwCl (wDesk cA Q zD ++ (wMd cA qM zM ++ wOut cA qO zO)) H → va_D (fun q : Nat => s.heap.size ≤ q) (wDesk cA Q zD ++ (wMd cA qM zM ++ wOut cA qO zO)) → va_S (fun q : Nat => s.heap.size ≤ q) s.heap H locs → lv_has ls 8 [(0, .ref (b)), (1, .ref (Q 0 0)), (2, .ref (qM 0)), (3, .ref (qO 0)), (4, .int x4)] → f_L_law_917 xs L kb_23 zD zM zO x4 = some 1 → W p l e room_1 s m #[Value.ref b] below meth c H locs cells slots (lw_Z below #[Value.ref b] s) (F0 m 917 ls []) := by
  obtain ⟨hx, hb, hr, hml, hown, hts0, hX, hbl, hlocks, hgv⟩ := id C0
  have hts : ∀ w ∈ wd, w.before #[Value.ref b] s = true := fun w h => hts0 w (List.mem_filter.mp h).1
  have hown : s.vm.findClass RL = some m.cls := hown
  have hbA : ¬ (fun q : Nat => s.heap.size ≤ q) b := Nat.not_le.mpr hbl
  intro zD zM zO x4 H locs ls cells slots hb1 hb2 hP hD hS hl hf
  unfold f_L_law_917 at hf
  refine lv_iinc (v := (x4 + 6)) (lv' := [(4, .int (x4 + 6)), (0, .ref (b)), (1, .ref (Q 0 0)), (2, .ref (qM 0)), (3, .ref (qO 0))]) hx hb dL_law_917 hl (k := 4) rfl rfl (by decide) rfl (fun ls hl => ?_)
  refine lv_goto (tgt := 23) hx hb dL_law_920 (by decide) ?_
  exact hkb_23 zD zM zO (x4 + 6) H locs ls _ _ (by omega) (by omega) hP hD hS (lv_sub hl [1, 2, 3, 4, 0] rfl) hf
def f_L_law_914 (xs : Nat → Int32) (L : Nat) (kb_23 : DeskS → MdS → OutS → Int32 → Option (Int32)) (zD : DeskS) (zM : MdS) (zO : OutS) (x4 : Int32) : Option (Int32) := f_L_law_917 xs L kb_23 zD zM zO x4
set_option maxHeartbeats 4000000 in
set_option maxRecDepth 100000 in
theorem b_L_law_914 {p : Program} {l : Launch} {e : Env} {s : State} {m : MethodId} {below : List Frame} {meth : Method} {c : Code} {b L : Nat} {xs : Nat → Int32} {G : va_G} {cA : Nat → ClassId} {sa : Nat → Nat} (Q : Nat → Nat → Nat) (qM qO : Nat → Nat) (htr : l.stackTraces = false) (C0 : lw_At p s m meth c b L xs) (hK : kOK G cA s) (hxh : xH (fun q : Nat => s.heap.size ≤ q) sa s) (bf : Nat) (kb_23 : DeskS → MdS → OutS → Int32 → Option (Int32)) (hkb_23 : ∀ (zD : DeskS) (zM : MdS) (zO : OutS) (x4 : Int32) (H : Heap) (locs : List Loc) (ls : Array Slot) (cells slots : Nat), cells + bf ≤ 601024 → slots + 6 * bf ≤ 7293034 → va_P G vwCl (wDesk cA Q zD ++ (wMd cA qM zM ++ wOut cA qO zO)) H → va_D (fun q : Nat => s.heap.size ≤ q) (wDesk cA Q zD ++ (wMd cA qM zM ++ wOut cA qO zO)) → va_S (fun q : Nat => s.heap.size ≤ q) s.heap H locs → lv_has ls 8 [(0, .ref (b)), (1, .ref (Q 0 0)), (2, .ref (qM 0)), (3, .ref (qO 0)), (4, .int x4)] → kb_23 zD zM zO x4 = some 1 → W p l e room_1 s m #[Value.ref b] below meth c H locs cells slots (lw_Z below #[Value.ref b] s) (F0 m 23 ls [])) : ∀ (zD : DeskS) (zM : MdS) (zO : OutS) (x4 : Int32) (H : Heap) (locs : List Loc) (ls : Array Slot) (cells slots : Nat), cells + bf ≤ 601024 → slots + 6 * bf ≤ 7293034 → va_P G vwCl (wDesk cA Q zD ++ (wMd cA qM zM ++ wOut cA qO zO)) H → va_D (fun q : Nat => s.heap.size ≤ q) (wDesk cA Q zD ++ (wMd cA qM zM ++ wOut cA qO zO)) → va_S (fun q : Nat => s.heap.size ≤ q) s.heap H locs → lv_has ls 8 [(0, .ref (b)), (1, .ref (Q 0 0)), (2, .ref (qM 0)), (3, .ref (qO 0)), (4, .int x4)] → f_L_law_914 xs L kb_23 zD zM zO x4 = some 1 → W p l e room_1 s m #[Value.ref b] below meth c H locs cells slots (lw_Z below #[Value.ref b] s) (F0 m 914 ls []) := by
  obtain ⟨hx, hb, hr, hml, hown, hts0, hX, hbl, hlocks, hgv⟩ := id C0
  have hts : ∀ w ∈ wd, w.before #[Value.ref b] s = true := fun w h => hts0 w (List.mem_filter.mp h).1
  have hown : s.vm.findClass RL = some m.cls := hown
  have hbA : ¬ (fun q : Nat => s.heap.size ≤ q) b := Nat.not_le.mpr hbl
  intro zD zM zO x4 H locs ls cells slots hb1 hb2 hP hD hS hl hf
  unfold f_L_law_914 at hf
  refine lv_goto (tgt := 917) hx hb dL_law_914 (by decide) ?_
  exact b_L_law_917 Q qM qO htr C0 hK hxh bf kb_23 hkb_23 zD zM zO x4 H locs ls _ _ (by omega) (by omega) hP hD hS (lv_sub hl [0, 1, 2, 3, 4] rfl) hf
def f_L_law_835 (xs : Nat → Int32) (L : Nat) (kb_23 : DeskS → MdS → OutS → Int32 → Option (Int32)) (zD : DeskS) (zM : MdS) (zO : OutS) (x4 : Int32) : Option (Int32) := f_L_law_917 xs L kb_23 zD zM zO x4
set_option maxHeartbeats 4000000 in
set_option maxRecDepth 100000 in
theorem b_L_law_835 {p : Program} {l : Launch} {e : Env} {s : State} {m : MethodId} {below : List Frame} {meth : Method} {c : Code} {b L : Nat} {xs : Nat → Int32} {G : va_G} {cA : Nat → ClassId} {sa : Nat → Nat} (Q : Nat → Nat → Nat) (qM qO : Nat → Nat) (htr : l.stackTraces = false) (C0 : lw_At p s m meth c b L xs) (hK : kOK G cA s) (hxh : xH (fun q : Nat => s.heap.size ≤ q) sa s) (bf : Nat) (kb_23 : DeskS → MdS → OutS → Int32 → Option (Int32)) (hkb_23 : ∀ (zD : DeskS) (zM : MdS) (zO : OutS) (x4 : Int32) (H : Heap) (locs : List Loc) (ls : Array Slot) (cells slots : Nat), cells + bf ≤ 601024 → slots + 6 * bf ≤ 7293034 → va_P G vwCl (wDesk cA Q zD ++ (wMd cA qM zM ++ wOut cA qO zO)) H → va_D (fun q : Nat => s.heap.size ≤ q) (wDesk cA Q zD ++ (wMd cA qM zM ++ wOut cA qO zO)) → va_S (fun q : Nat => s.heap.size ≤ q) s.heap H locs → lv_has ls 8 [(0, .ref (b)), (1, .ref (Q 0 0)), (2, .ref (qM 0)), (3, .ref (qO 0)), (4, .int x4)] → kb_23 zD zM zO x4 = some 1 → W p l e room_1 s m #[Value.ref b] below meth c H locs cells slots (lw_Z below #[Value.ref b] s) (F0 m 23 ls [])) : ∀ (zD : DeskS) (zM : MdS) (zO : OutS) (x4 : Int32) (H : Heap) (locs : List Loc) (ls : Array Slot) (cells slots : Nat), cells + bf ≤ 601024 → slots + 6 * bf ≤ 7293034 → va_P G vwCl (wDesk cA Q zD ++ (wMd cA qM zM ++ wOut cA qO zO)) H → va_D (fun q : Nat => s.heap.size ≤ q) (wDesk cA Q zD ++ (wMd cA qM zM ++ wOut cA qO zO)) → va_S (fun q : Nat => s.heap.size ≤ q) s.heap H locs → lv_has ls 8 [(0, .ref (b)), (1, .ref (Q 0 0)), (2, .ref (qM 0)), (3, .ref (qO 0)), (4, .int x4)] → f_L_law_835 xs L kb_23 zD zM zO x4 = some 1 → W p l e room_1 s m #[Value.ref b] below meth c H locs cells slots (lw_Z below #[Value.ref b] s) (F0 m 835 ls []) := by
  obtain ⟨hx, hb, hr, hml, hown, hts0, hX, hbl, hlocks, hgv⟩ := id C0
  have hts : ∀ w ∈ wd, w.before #[Value.ref b] s = true := fun w h => hts0 w (List.mem_filter.mp h).1
  have hown : s.vm.findClass RL = some m.cls := hown
  have hbA : ¬ (fun q : Nat => s.heap.size ≤ q) b := Nat.not_le.mpr hbl
  intro zD zM zO x4 H locs ls cells slots hb1 hb2 hP hD hS hl hf
  unfold f_L_law_835 at hf
  refine lv_goto (tgt := 917) hx hb dL_law_835 (by decide) ?_
  exact b_L_law_917 Q qM qO htr C0 hK hxh bf kb_23 hkb_23 zD zM zO x4 H locs ls _ _ (by omega) (by omega) hP hD hS (lv_sub hl [0, 1, 2, 3, 4] rfl) hf
def f_L_law_779 (xs : Nat → Int32) (L : Nat) (kb_23 : DeskS → MdS → OutS → Int32 → Option (Int32)) (zD : DeskS) (zM : MdS) (zO : OutS) (x4 : Int32) : Option (Int32) := f_L_law_917 xs L kb_23 zD zM zO x4
set_option maxHeartbeats 4000000 in
set_option maxRecDepth 100000 in
theorem b_L_law_779 {p : Program} {l : Launch} {e : Env} {s : State} {m : MethodId} {below : List Frame} {meth : Method} {c : Code} {b L : Nat} {xs : Nat → Int32} {G : va_G} {cA : Nat → ClassId} {sa : Nat → Nat} (Q : Nat → Nat → Nat) (qM qO : Nat → Nat) (htr : l.stackTraces = false) (C0 : lw_At p s m meth c b L xs) (hK : kOK G cA s) (hxh : xH (fun q : Nat => s.heap.size ≤ q) sa s) (bf : Nat) (kb_23 : DeskS → MdS → OutS → Int32 → Option (Int32)) (hkb_23 : ∀ (zD : DeskS) (zM : MdS) (zO : OutS) (x4 : Int32) (H : Heap) (locs : List Loc) (ls : Array Slot) (cells slots : Nat), cells + bf ≤ 601024 → slots + 6 * bf ≤ 7293034 → va_P G vwCl (wDesk cA Q zD ++ (wMd cA qM zM ++ wOut cA qO zO)) H → va_D (fun q : Nat => s.heap.size ≤ q) (wDesk cA Q zD ++ (wMd cA qM zM ++ wOut cA qO zO)) → va_S (fun q : Nat => s.heap.size ≤ q) s.heap H locs → lv_has ls 8 [(0, .ref (b)), (1, .ref (Q 0 0)), (2, .ref (qM 0)), (3, .ref (qO 0)), (4, .int x4)] → kb_23 zD zM zO x4 = some 1 → W p l e room_1 s m #[Value.ref b] below meth c H locs cells slots (lw_Z below #[Value.ref b] s) (F0 m 23 ls [])) : ∀ (zD : DeskS) (zM : MdS) (zO : OutS) (x4 : Int32) (H : Heap) (locs : List Loc) (ls : Array Slot) (cells slots : Nat), cells + bf ≤ 601024 → slots + 6 * bf ≤ 7293034 → va_P G vwCl (wDesk cA Q zD ++ (wMd cA qM zM ++ wOut cA qO zO)) H → va_D (fun q : Nat => s.heap.size ≤ q) (wDesk cA Q zD ++ (wMd cA qM zM ++ wOut cA qO zO)) → va_S (fun q : Nat => s.heap.size ≤ q) s.heap H locs → lv_has ls 8 [(0, .ref (b)), (1, .ref (Q 0 0)), (2, .ref (qM 0)), (3, .ref (qO 0)), (4, .int x4)] → f_L_law_779 xs L kb_23 zD zM zO x4 = some 1 → W p l e room_1 s m #[Value.ref b] below meth c H locs cells slots (lw_Z below #[Value.ref b] s) (F0 m 779 ls []) := by
  obtain ⟨hx, hb, hr, hml, hown, hts0, hX, hbl, hlocks, hgv⟩ := id C0
  have hts : ∀ w ∈ wd, w.before #[Value.ref b] s = true := fun w h => hts0 w (List.mem_filter.mp h).1
  have hown : s.vm.findClass RL = some m.cls := hown
  have hbA : ¬ (fun q : Nat => s.heap.size ≤ q) b := Nat.not_le.mpr hbl
  intro zD zM zO x4 H locs ls cells slots hb1 hb2 hP hD hS hl hf
  unfold f_L_law_779 at hf
  refine lv_goto (tgt := 917) hx hb dL_law_779 (by decide) ?_
  exact b_L_law_917 Q qM qO htr C0 hK hxh bf kb_23 hkb_23 zD zM zO x4 H locs ls _ _ (by omega) (by omega) hP hD hS (lv_sub hl [0, 1, 2, 3, 4] rfl) hf
def f_L_law_773 (xs : Nat → Int32) (L : Nat) (kb_23 : DeskS → MdS → OutS → Int32 → Option (Int32)) (zD : DeskS) (zM : MdS) (zO : OutS) (x4 : Int32) (v0 : Int64) (v1 : Int64) : Option (Int32) := if v0 = v1 then f_L_law_779 xs L kb_23 zD zM zO x4 else some (0 : Int32)
set_option maxHeartbeats 4000000 in
set_option maxRecDepth 100000 in
theorem b_L_law_773 {p : Program} {l : Launch} {e : Env} {s : State} {m : MethodId} {below : List Frame} {meth : Method} {c : Code} {b L : Nat} {xs : Nat → Int32} {G : va_G} {cA : Nat → ClassId} {sa : Nat → Nat} (Q : Nat → Nat → Nat) (qM qO : Nat → Nat) (htr : l.stackTraces = false) (C0 : lw_At p s m meth c b L xs) (hK : kOK G cA s) (hxh : xH (fun q : Nat => s.heap.size ≤ q) sa s) (bf : Nat) (kb_23 : DeskS → MdS → OutS → Int32 → Option (Int32)) (hkb_23 : ∀ (zD : DeskS) (zM : MdS) (zO : OutS) (x4 : Int32) (H : Heap) (locs : List Loc) (ls : Array Slot) (cells slots : Nat), cells + bf ≤ 601024 → slots + 6 * bf ≤ 7293034 → va_P G vwCl (wDesk cA Q zD ++ (wMd cA qM zM ++ wOut cA qO zO)) H → va_D (fun q : Nat => s.heap.size ≤ q) (wDesk cA Q zD ++ (wMd cA qM zM ++ wOut cA qO zO)) → va_S (fun q : Nat => s.heap.size ≤ q) s.heap H locs → lv_has ls 8 [(0, .ref (b)), (1, .ref (Q 0 0)), (2, .ref (qM 0)), (3, .ref (qO 0)), (4, .int x4)] → kb_23 zD zM zO x4 = some 1 → W p l e room_1 s m #[Value.ref b] below meth c H locs cells slots (lw_Z below #[Value.ref b] s) (F0 m 23 ls [])) : ∀ (zD : DeskS) (zM : MdS) (zO : OutS) (x4 : Int32) (v0 : Int64) (v1 : Int64) (H : Heap) (locs : List Loc) (ls : Array Slot) (cells slots : Nat), cells + bf ≤ 601024 → slots + 6 * bf ≤ 7293034 → va_P G vwCl (wDesk cA Q zD ++ (wMd cA qM zM ++ wOut cA qO zO)) H → va_D (fun q : Nat => s.heap.size ≤ q) (wDesk cA Q zD ++ (wMd cA qM zM ++ wOut cA qO zO)) → va_S (fun q : Nat => s.heap.size ≤ q) s.heap H locs → lv_has ls 8 [(0, .ref (b)), (1, .ref (Q 0 0)), (2, .ref (qM 0)), (3, .ref (qO 0)), (4, .int x4)] → f_L_law_773 xs L kb_23 zD zM zO x4 v0 v1 = some 1 → W p l e room_1 s m #[Value.ref b] below meth c H locs cells slots (lw_Z below #[Value.ref b] s) (F0 m 773 ls [.long v1, .long v0]) := by
  obtain ⟨hx, hb, hr, hml, hown, hts0, hX, hbl, hlocks, hgv⟩ := id C0
  have hts : ∀ w ∈ wd, w.before #[Value.ref b] s = true := fun w h => hts0 w (List.mem_filter.mp h).1
  have hown : s.vm.findClass RL = some m.cls := hown
  have hbA : ¬ (fun q : Nat => s.heap.size ≤ q) b := Nat.not_le.mpr hbl
  intro zD zM zO x4 v0 v1 H locs ls cells slots hb1 hb2 hP hD hS hl hf
  unfold f_L_law_773 at hf
  refine W.lcmp hx hb dL_law_773 ?_
  refine lv_if_eq (tgt := 779) hx hb dL_law_774 (by decide) (fun c_1 => ?_) (fun c_1 => ?_)
  · rw [if_pos ((lg_cmp_eq _ _).mp c_1)] at hf
    exact b_L_law_779 Q qM qO htr C0 hK hxh bf kb_23 hkb_23 zD zM zO x4 H locs ls _ _ (by omega) (by omega) hP hD hS (lv_sub hl [0, 1, 2, 3, 4] rfl) hf
  · rw [if_neg (fun h => c_1 ((lg_cmp_eq _ _).mpr h))] at hf
    refine lv_iconst (v := 0) hx hb dL_law_777 (by decide) ?_
    exact absurd (Option.some.inj hf) (by decide)
def f_L_law_704 (xs : Nat → Int32) (L : Nat) (kb_23 : DeskS → MdS → OutS → Int32 → Option (Int32)) (zD : DeskS) (zM : MdS) (zO : OutS) (x4 : Int32) : Option (Int32) := f_L_law_917 xs L kb_23 zD zM zO x4
set_option maxHeartbeats 4000000 in
set_option maxRecDepth 100000 in
theorem b_L_law_704 {p : Program} {l : Launch} {e : Env} {s : State} {m : MethodId} {below : List Frame} {meth : Method} {c : Code} {b L : Nat} {xs : Nat → Int32} {G : va_G} {cA : Nat → ClassId} {sa : Nat → Nat} (Q : Nat → Nat → Nat) (qM qO : Nat → Nat) (htr : l.stackTraces = false) (C0 : lw_At p s m meth c b L xs) (hK : kOK G cA s) (hxh : xH (fun q : Nat => s.heap.size ≤ q) sa s) (bf : Nat) (kb_23 : DeskS → MdS → OutS → Int32 → Option (Int32)) (hkb_23 : ∀ (zD : DeskS) (zM : MdS) (zO : OutS) (x4 : Int32) (H : Heap) (locs : List Loc) (ls : Array Slot) (cells slots : Nat), cells + bf ≤ 601024 → slots + 6 * bf ≤ 7293034 → va_P G vwCl (wDesk cA Q zD ++ (wMd cA qM zM ++ wOut cA qO zO)) H → va_D (fun q : Nat => s.heap.size ≤ q) (wDesk cA Q zD ++ (wMd cA qM zM ++ wOut cA qO zO)) → va_S (fun q : Nat => s.heap.size ≤ q) s.heap H locs → lv_has ls 8 [(0, .ref (b)), (1, .ref (Q 0 0)), (2, .ref (qM 0)), (3, .ref (qO 0)), (4, .int x4)] → kb_23 zD zM zO x4 = some 1 → W p l e room_1 s m #[Value.ref b] below meth c H locs cells slots (lw_Z below #[Value.ref b] s) (F0 m 23 ls [])) : ∀ (zD : DeskS) (zM : MdS) (zO : OutS) (x4 : Int32) (H : Heap) (locs : List Loc) (ls : Array Slot) (cells slots : Nat), cells + bf ≤ 601024 → slots + 6 * bf ≤ 7293034 → va_P G vwCl (wDesk cA Q zD ++ (wMd cA qM zM ++ wOut cA qO zO)) H → va_D (fun q : Nat => s.heap.size ≤ q) (wDesk cA Q zD ++ (wMd cA qM zM ++ wOut cA qO zO)) → va_S (fun q : Nat => s.heap.size ≤ q) s.heap H locs → lv_has ls 8 [(0, .ref (b)), (1, .ref (Q 0 0)), (2, .ref (qM 0)), (3, .ref (qO 0)), (4, .int x4)] → f_L_law_704 xs L kb_23 zD zM zO x4 = some 1 → W p l e room_1 s m #[Value.ref b] below meth c H locs cells slots (lw_Z below #[Value.ref b] s) (F0 m 704 ls []) := by
  obtain ⟨hx, hb, hr, hml, hown, hts0, hX, hbl, hlocks, hgv⟩ := id C0
  have hts : ∀ w ∈ wd, w.before #[Value.ref b] s = true := fun w h => hts0 w (List.mem_filter.mp h).1
  have hown : s.vm.findClass RL = some m.cls := hown
  have hbA : ¬ (fun q : Nat => s.heap.size ≤ q) b := Nat.not_le.mpr hbl
  intro zD zM zO x4 H locs ls cells slots hb1 hb2 hP hD hS hl hf
  unfold f_L_law_704 at hf
  refine lv_goto (tgt := 917) hx hb dL_law_704 (by decide) ?_
  exact b_L_law_917 Q qM qO htr C0 hK hxh bf kb_23 hkb_23 zD zM zO x4 H locs ls _ _ (by omega) (by omega) hP hD hS (lv_sub hl [0, 1, 2, 3, 4] rfl) hf
def f_L_law_624 (xs : Nat → Int32) (L : Nat) (kb_23 : DeskS → MdS → OutS → Int32 → Option (Int32)) (zD : DeskS) (zM : MdS) (zO : OutS) (x4 : Int32) : Option (Int32) := f_L_law_917 xs L kb_23 zD zM zO x4
set_option maxHeartbeats 4000000 in
set_option maxRecDepth 100000 in
theorem b_L_law_624 {p : Program} {l : Launch} {e : Env} {s : State} {m : MethodId} {below : List Frame} {meth : Method} {c : Code} {b L : Nat} {xs : Nat → Int32} {G : va_G} {cA : Nat → ClassId} {sa : Nat → Nat} (Q : Nat → Nat → Nat) (qM qO : Nat → Nat) (htr : l.stackTraces = false) (C0 : lw_At p s m meth c b L xs) (hK : kOK G cA s) (hxh : xH (fun q : Nat => s.heap.size ≤ q) sa s) (bf : Nat) (kb_23 : DeskS → MdS → OutS → Int32 → Option (Int32)) (hkb_23 : ∀ (zD : DeskS) (zM : MdS) (zO : OutS) (x4 : Int32) (H : Heap) (locs : List Loc) (ls : Array Slot) (cells slots : Nat), cells + bf ≤ 601024 → slots + 6 * bf ≤ 7293034 → va_P G vwCl (wDesk cA Q zD ++ (wMd cA qM zM ++ wOut cA qO zO)) H → va_D (fun q : Nat => s.heap.size ≤ q) (wDesk cA Q zD ++ (wMd cA qM zM ++ wOut cA qO zO)) → va_S (fun q : Nat => s.heap.size ≤ q) s.heap H locs → lv_has ls 8 [(0, .ref (b)), (1, .ref (Q 0 0)), (2, .ref (qM 0)), (3, .ref (qO 0)), (4, .int x4)] → kb_23 zD zM zO x4 = some 1 → W p l e room_1 s m #[Value.ref b] below meth c H locs cells slots (lw_Z below #[Value.ref b] s) (F0 m 23 ls [])) : ∀ (zD : DeskS) (zM : MdS) (zO : OutS) (x4 : Int32) (H : Heap) (locs : List Loc) (ls : Array Slot) (cells slots : Nat), cells + bf ≤ 601024 → slots + 6 * bf ≤ 7293034 → va_P G vwCl (wDesk cA Q zD ++ (wMd cA qM zM ++ wOut cA qO zO)) H → va_D (fun q : Nat => s.heap.size ≤ q) (wDesk cA Q zD ++ (wMd cA qM zM ++ wOut cA qO zO)) → va_S (fun q : Nat => s.heap.size ≤ q) s.heap H locs → lv_has ls 8 [(0, .ref (b)), (1, .ref (Q 0 0)), (2, .ref (qM 0)), (3, .ref (qO 0)), (4, .int x4)] → f_L_law_624 xs L kb_23 zD zM zO x4 = some 1 → W p l e room_1 s m #[Value.ref b] below meth c H locs cells slots (lw_Z below #[Value.ref b] s) (F0 m 624 ls []) := by
  obtain ⟨hx, hb, hr, hml, hown, hts0, hX, hbl, hlocks, hgv⟩ := id C0
  have hts : ∀ w ∈ wd, w.before #[Value.ref b] s = true := fun w h => hts0 w (List.mem_filter.mp h).1
  have hown : s.vm.findClass RL = some m.cls := hown
  have hbA : ¬ (fun q : Nat => s.heap.size ≤ q) b := Nat.not_le.mpr hbl
  intro zD zM zO x4 H locs ls cells slots hb1 hb2 hP hD hS hl hf
  unfold f_L_law_624 at hf
  refine lv_goto (tgt := 917) hx hb dL_law_624 (by decide) ?_
  exact b_L_law_917 Q qM qO htr C0 hK hxh bf kb_23 hkb_23 zD zM zO x4 H locs ls _ _ (by omega) (by omega) hP hD hS (lv_sub hl [0, 1, 2, 3, 4] rfl) hf
def f_L_law_556 (xs : Nat → Int32) (L : Nat) (kb_23 : DeskS → MdS → OutS → Int32 → Option (Int32)) (zD : DeskS) (zM : MdS) (zO : OutS) (x4 : Int32) : Option (Int32) := f_L_law_917 xs L kb_23 zD zM zO x4
set_option maxHeartbeats 4000000 in
set_option maxRecDepth 100000 in
theorem b_L_law_556 {p : Program} {l : Launch} {e : Env} {s : State} {m : MethodId} {below : List Frame} {meth : Method} {c : Code} {b L : Nat} {xs : Nat → Int32} {G : va_G} {cA : Nat → ClassId} {sa : Nat → Nat} (Q : Nat → Nat → Nat) (qM qO : Nat → Nat) (htr : l.stackTraces = false) (C0 : lw_At p s m meth c b L xs) (hK : kOK G cA s) (hxh : xH (fun q : Nat => s.heap.size ≤ q) sa s) (bf : Nat) (kb_23 : DeskS → MdS → OutS → Int32 → Option (Int32)) (hkb_23 : ∀ (zD : DeskS) (zM : MdS) (zO : OutS) (x4 : Int32) (H : Heap) (locs : List Loc) (ls : Array Slot) (cells slots : Nat), cells + bf ≤ 601024 → slots + 6 * bf ≤ 7293034 → va_P G vwCl (wDesk cA Q zD ++ (wMd cA qM zM ++ wOut cA qO zO)) H → va_D (fun q : Nat => s.heap.size ≤ q) (wDesk cA Q zD ++ (wMd cA qM zM ++ wOut cA qO zO)) → va_S (fun q : Nat => s.heap.size ≤ q) s.heap H locs → lv_has ls 8 [(0, .ref (b)), (1, .ref (Q 0 0)), (2, .ref (qM 0)), (3, .ref (qO 0)), (4, .int x4)] → kb_23 zD zM zO x4 = some 1 → W p l e room_1 s m #[Value.ref b] below meth c H locs cells slots (lw_Z below #[Value.ref b] s) (F0 m 23 ls [])) : ∀ (zD : DeskS) (zM : MdS) (zO : OutS) (x4 : Int32) (H : Heap) (locs : List Loc) (ls : Array Slot) (cells slots : Nat), cells + bf ≤ 601024 → slots + 6 * bf ≤ 7293034 → va_P G vwCl (wDesk cA Q zD ++ (wMd cA qM zM ++ wOut cA qO zO)) H → va_D (fun q : Nat => s.heap.size ≤ q) (wDesk cA Q zD ++ (wMd cA qM zM ++ wOut cA qO zO)) → va_S (fun q : Nat => s.heap.size ≤ q) s.heap H locs → lv_has ls 8 [(0, .ref (b)), (1, .ref (Q 0 0)), (2, .ref (qM 0)), (3, .ref (qO 0)), (4, .int x4)] → f_L_law_556 xs L kb_23 zD zM zO x4 = some 1 → W p l e room_1 s m #[Value.ref b] below meth c H locs cells slots (lw_Z below #[Value.ref b] s) (F0 m 556 ls []) := by
  obtain ⟨hx, hb, hr, hml, hown, hts0, hX, hbl, hlocks, hgv⟩ := id C0
  have hts : ∀ w ∈ wd, w.before #[Value.ref b] s = true := fun w h => hts0 w (List.mem_filter.mp h).1
  have hown : s.vm.findClass RL = some m.cls := hown
  have hbA : ¬ (fun q : Nat => s.heap.size ≤ q) b := Nat.not_le.mpr hbl
  intro zD zM zO x4 H locs ls cells slots hb1 hb2 hP hD hS hl hf
  unfold f_L_law_556 at hf
  refine lv_goto (tgt := 917) hx hb dL_law_556 (by decide) ?_
  exact b_L_law_917 Q qM qO htr C0 hK hxh bf kb_23 hkb_23 zD zM zO x4 H locs ls _ _ (by omega) (by omega) hP hD hS (lv_sub hl [0, 1, 2, 3, 4] rfl) hf
def f_L_law_476 (xs : Nat → Int32) (L : Nat) (kb_23 : DeskS → MdS → OutS → Int32 → Option (Int32)) (zD : DeskS) (zM : MdS) (zO : OutS) (x4 : Int32) : Option (Int32) := f_L_law_917 xs L kb_23 zD zM zO x4
set_option maxHeartbeats 4000000 in
set_option maxRecDepth 100000 in
theorem b_L_law_476 {p : Program} {l : Launch} {e : Env} {s : State} {m : MethodId} {below : List Frame} {meth : Method} {c : Code} {b L : Nat} {xs : Nat → Int32} {G : va_G} {cA : Nat → ClassId} {sa : Nat → Nat} (Q : Nat → Nat → Nat) (qM qO : Nat → Nat) (htr : l.stackTraces = false) (C0 : lw_At p s m meth c b L xs) (hK : kOK G cA s) (hxh : xH (fun q : Nat => s.heap.size ≤ q) sa s) (bf : Nat) (kb_23 : DeskS → MdS → OutS → Int32 → Option (Int32)) (hkb_23 : ∀ (zD : DeskS) (zM : MdS) (zO : OutS) (x4 : Int32) (H : Heap) (locs : List Loc) (ls : Array Slot) (cells slots : Nat), cells + bf ≤ 601024 → slots + 6 * bf ≤ 7293034 → va_P G vwCl (wDesk cA Q zD ++ (wMd cA qM zM ++ wOut cA qO zO)) H → va_D (fun q : Nat => s.heap.size ≤ q) (wDesk cA Q zD ++ (wMd cA qM zM ++ wOut cA qO zO)) → va_S (fun q : Nat => s.heap.size ≤ q) s.heap H locs → lv_has ls 8 [(0, .ref (b)), (1, .ref (Q 0 0)), (2, .ref (qM 0)), (3, .ref (qO 0)), (4, .int x4)] → kb_23 zD zM zO x4 = some 1 → W p l e room_1 s m #[Value.ref b] below meth c H locs cells slots (lw_Z below #[Value.ref b] s) (F0 m 23 ls [])) : ∀ (zD : DeskS) (zM : MdS) (zO : OutS) (x4 : Int32) (H : Heap) (locs : List Loc) (ls : Array Slot) (cells slots : Nat), cells + bf ≤ 601024 → slots + 6 * bf ≤ 7293034 → va_P G vwCl (wDesk cA Q zD ++ (wMd cA qM zM ++ wOut cA qO zO)) H → va_D (fun q : Nat => s.heap.size ≤ q) (wDesk cA Q zD ++ (wMd cA qM zM ++ wOut cA qO zO)) → va_S (fun q : Nat => s.heap.size ≤ q) s.heap H locs → lv_has ls 8 [(0, .ref (b)), (1, .ref (Q 0 0)), (2, .ref (qM 0)), (3, .ref (qO 0)), (4, .int x4)] → f_L_law_476 xs L kb_23 zD zM zO x4 = some 1 → W p l e room_1 s m #[Value.ref b] below meth c H locs cells slots (lw_Z below #[Value.ref b] s) (F0 m 476 ls []) := by
  obtain ⟨hx, hb, hr, hml, hown, hts0, hX, hbl, hlocks, hgv⟩ := id C0
  have hts : ∀ w ∈ wd, w.before #[Value.ref b] s = true := fun w h => hts0 w (List.mem_filter.mp h).1
  have hown : s.vm.findClass RL = some m.cls := hown
  have hbA : ¬ (fun q : Nat => s.heap.size ≤ q) b := Nat.not_le.mpr hbl
  intro zD zM zO x4 H locs ls cells slots hb1 hb2 hP hD hS hl hf
  unfold f_L_law_476 at hf
  refine lv_goto (tgt := 917) hx hb dL_law_476 (by decide) ?_
  exact b_L_law_917 Q qM qO htr C0 hK hxh bf kb_23 hkb_23 zD zM zO x4 H locs ls _ _ (by omega) (by omega) hP hD hS (lv_sub hl [0, 1, 2, 3, 4] rfl) hf
def f_L_law_347 (xs : Nat → Int32) (L : Nat) (kb_23 : DeskS → MdS → OutS → Int32 → Option (Int32)) (zD : DeskS) (zM : MdS) (zO : OutS) (x4 : Int32) : Option (Int32) := f_L_law_917 xs L kb_23 zD zM zO x4
set_option maxHeartbeats 4000000 in
set_option maxRecDepth 100000 in
theorem b_L_law_347 {p : Program} {l : Launch} {e : Env} {s : State} {m : MethodId} {below : List Frame} {meth : Method} {c : Code} {b L : Nat} {xs : Nat → Int32} {G : va_G} {cA : Nat → ClassId} {sa : Nat → Nat} (Q : Nat → Nat → Nat) (qM qO : Nat → Nat) (htr : l.stackTraces = false) (C0 : lw_At p s m meth c b L xs) (hK : kOK G cA s) (hxh : xH (fun q : Nat => s.heap.size ≤ q) sa s) (bf : Nat) (kb_23 : DeskS → MdS → OutS → Int32 → Option (Int32)) (hkb_23 : ∀ (zD : DeskS) (zM : MdS) (zO : OutS) (x4 : Int32) (H : Heap) (locs : List Loc) (ls : Array Slot) (cells slots : Nat), cells + bf ≤ 601024 → slots + 6 * bf ≤ 7293034 → va_P G vwCl (wDesk cA Q zD ++ (wMd cA qM zM ++ wOut cA qO zO)) H → va_D (fun q : Nat => s.heap.size ≤ q) (wDesk cA Q zD ++ (wMd cA qM zM ++ wOut cA qO zO)) → va_S (fun q : Nat => s.heap.size ≤ q) s.heap H locs → lv_has ls 8 [(0, .ref (b)), (1, .ref (Q 0 0)), (2, .ref (qM 0)), (3, .ref (qO 0)), (4, .int x4)] → kb_23 zD zM zO x4 = some 1 → W p l e room_1 s m #[Value.ref b] below meth c H locs cells slots (lw_Z below #[Value.ref b] s) (F0 m 23 ls [])) : ∀ (zD : DeskS) (zM : MdS) (zO : OutS) (x4 : Int32) (H : Heap) (locs : List Loc) (ls : Array Slot) (cells slots : Nat), cells + bf ≤ 601024 → slots + 6 * bf ≤ 7293034 → va_P G vwCl (wDesk cA Q zD ++ (wMd cA qM zM ++ wOut cA qO zO)) H → va_D (fun q : Nat => s.heap.size ≤ q) (wDesk cA Q zD ++ (wMd cA qM zM ++ wOut cA qO zO)) → va_S (fun q : Nat => s.heap.size ≤ q) s.heap H locs → lv_has ls 8 [(0, .ref (b)), (1, .ref (Q 0 0)), (2, .ref (qM 0)), (3, .ref (qO 0)), (4, .int x4)] → f_L_law_347 xs L kb_23 zD zM zO x4 = some 1 → W p l e room_1 s m #[Value.ref b] below meth c H locs cells slots (lw_Z below #[Value.ref b] s) (F0 m 347 ls []) := by
  obtain ⟨hx, hb, hr, hml, hown, hts0, hX, hbl, hlocks, hgv⟩ := id C0
  have hts : ∀ w ∈ wd, w.before #[Value.ref b] s = true := fun w h => hts0 w (List.mem_filter.mp h).1
  have hown : s.vm.findClass RL = some m.cls := hown
  have hbA : ¬ (fun q : Nat => s.heap.size ≤ q) b := Nat.not_le.mpr hbl
  intro zD zM zO x4 H locs ls cells slots hb1 hb2 hP hD hS hl hf
  unfold f_L_law_347 at hf
  refine lv_goto (tgt := 917) hx hb dL_law_347 (by decide) ?_
  exact b_L_law_917 Q qM qO htr C0 hK hxh bf kb_23 hkb_23 zD zM zO x4 H locs ls _ _ (by omega) (by omega) hP hD hS (lv_sub hl [0, 1, 2, 3, 4] rfl) hf
def f_L_law_278 (xs : Nat → Int32) (L : Nat) (kb_23 : DeskS → MdS → OutS → Int32 → Option (Int32)) (zD : DeskS) (zM : MdS) (zO : OutS) (x4 : Int32) : Option (Int32) := f_L_law_917 xs L kb_23 zD zM zO x4
set_option maxHeartbeats 4000000 in
set_option maxRecDepth 100000 in
theorem b_L_law_278 {p : Program} {l : Launch} {e : Env} {s : State} {m : MethodId} {below : List Frame} {meth : Method} {c : Code} {b L : Nat} {xs : Nat → Int32} {G : va_G} {cA : Nat → ClassId} {sa : Nat → Nat} (Q : Nat → Nat → Nat) (qM qO : Nat → Nat) (htr : l.stackTraces = false) (C0 : lw_At p s m meth c b L xs) (hK : kOK G cA s) (hxh : xH (fun q : Nat => s.heap.size ≤ q) sa s) (bf : Nat) (kb_23 : DeskS → MdS → OutS → Int32 → Option (Int32)) (hkb_23 : ∀ (zD : DeskS) (zM : MdS) (zO : OutS) (x4 : Int32) (H : Heap) (locs : List Loc) (ls : Array Slot) (cells slots : Nat), cells + bf ≤ 601024 → slots + 6 * bf ≤ 7293034 → va_P G vwCl (wDesk cA Q zD ++ (wMd cA qM zM ++ wOut cA qO zO)) H → va_D (fun q : Nat => s.heap.size ≤ q) (wDesk cA Q zD ++ (wMd cA qM zM ++ wOut cA qO zO)) → va_S (fun q : Nat => s.heap.size ≤ q) s.heap H locs → lv_has ls 8 [(0, .ref (b)), (1, .ref (Q 0 0)), (2, .ref (qM 0)), (3, .ref (qO 0)), (4, .int x4)] → kb_23 zD zM zO x4 = some 1 → W p l e room_1 s m #[Value.ref b] below meth c H locs cells slots (lw_Z below #[Value.ref b] s) (F0 m 23 ls [])) : ∀ (zD : DeskS) (zM : MdS) (zO : OutS) (x4 : Int32) (H : Heap) (locs : List Loc) (ls : Array Slot) (cells slots : Nat), cells + bf ≤ 601024 → slots + 6 * bf ≤ 7293034 → va_P G vwCl (wDesk cA Q zD ++ (wMd cA qM zM ++ wOut cA qO zO)) H → va_D (fun q : Nat => s.heap.size ≤ q) (wDesk cA Q zD ++ (wMd cA qM zM ++ wOut cA qO zO)) → va_S (fun q : Nat => s.heap.size ≤ q) s.heap H locs → lv_has ls 8 [(0, .ref (b)), (1, .ref (Q 0 0)), (2, .ref (qM 0)), (3, .ref (qO 0)), (4, .int x4)] → f_L_law_278 xs L kb_23 zD zM zO x4 = some 1 → W p l e room_1 s m #[Value.ref b] below meth c H locs cells slots (lw_Z below #[Value.ref b] s) (F0 m 278 ls []) := by
  obtain ⟨hx, hb, hr, hml, hown, hts0, hX, hbl, hlocks, hgv⟩ := id C0
  have hts : ∀ w ∈ wd, w.before #[Value.ref b] s = true := fun w h => hts0 w (List.mem_filter.mp h).1
  have hown : s.vm.findClass RL = some m.cls := hown
  have hbA : ¬ (fun q : Nat => s.heap.size ≤ q) b := Nat.not_le.mpr hbl
  intro zD zM zO x4 H locs ls cells slots hb1 hb2 hP hD hS hl hf
  unfold f_L_law_278 at hf
  refine lv_goto (tgt := 917) hx hb dL_law_278 (by decide) ?_
  exact b_L_law_917 Q qM qO htr C0 hK hxh bf kb_23 hkb_23 zD zM zO x4 H locs ls _ _ (by omega) (by omega) hP hD hS (lv_sub hl [0, 1, 2, 3, 4] rfl) hf
def f_L_law_209 (xs : Nat → Int32) (L : Nat) (kb_23 : DeskS → MdS → OutS → Int32 → Option (Int32)) (zD : DeskS) (zM : MdS) (zO : OutS) (x4 : Int32) : Option (Int32) := f_L_law_917 xs L kb_23 zD zM zO x4
set_option maxHeartbeats 4000000 in
set_option maxRecDepth 100000 in
theorem b_L_law_209 {p : Program} {l : Launch} {e : Env} {s : State} {m : MethodId} {below : List Frame} {meth : Method} {c : Code} {b L : Nat} {xs : Nat → Int32} {G : va_G} {cA : Nat → ClassId} {sa : Nat → Nat} (Q : Nat → Nat → Nat) (qM qO : Nat → Nat) (htr : l.stackTraces = false) (C0 : lw_At p s m meth c b L xs) (hK : kOK G cA s) (hxh : xH (fun q : Nat => s.heap.size ≤ q) sa s) (bf : Nat) (kb_23 : DeskS → MdS → OutS → Int32 → Option (Int32)) (hkb_23 : ∀ (zD : DeskS) (zM : MdS) (zO : OutS) (x4 : Int32) (H : Heap) (locs : List Loc) (ls : Array Slot) (cells slots : Nat), cells + bf ≤ 601024 → slots + 6 * bf ≤ 7293034 → va_P G vwCl (wDesk cA Q zD ++ (wMd cA qM zM ++ wOut cA qO zO)) H → va_D (fun q : Nat => s.heap.size ≤ q) (wDesk cA Q zD ++ (wMd cA qM zM ++ wOut cA qO zO)) → va_S (fun q : Nat => s.heap.size ≤ q) s.heap H locs → lv_has ls 8 [(0, .ref (b)), (1, .ref (Q 0 0)), (2, .ref (qM 0)), (3, .ref (qO 0)), (4, .int x4)] → kb_23 zD zM zO x4 = some 1 → W p l e room_1 s m #[Value.ref b] below meth c H locs cells slots (lw_Z below #[Value.ref b] s) (F0 m 23 ls [])) : ∀ (zD : DeskS) (zM : MdS) (zO : OutS) (x4 : Int32) (H : Heap) (locs : List Loc) (ls : Array Slot) (cells slots : Nat), cells + bf ≤ 601024 → slots + 6 * bf ≤ 7293034 → va_P G vwCl (wDesk cA Q zD ++ (wMd cA qM zM ++ wOut cA qO zO)) H → va_D (fun q : Nat => s.heap.size ≤ q) (wDesk cA Q zD ++ (wMd cA qM zM ++ wOut cA qO zO)) → va_S (fun q : Nat => s.heap.size ≤ q) s.heap H locs → lv_has ls 8 [(0, .ref (b)), (1, .ref (Q 0 0)), (2, .ref (qM 0)), (3, .ref (qO 0)), (4, .int x4)] → f_L_law_209 xs L kb_23 zD zM zO x4 = some 1 → W p l e room_1 s m #[Value.ref b] below meth c H locs cells slots (lw_Z below #[Value.ref b] s) (F0 m 209 ls []) := by
  obtain ⟨hx, hb, hr, hml, hown, hts0, hX, hbl, hlocks, hgv⟩ := id C0
  have hts : ∀ w ∈ wd, w.before #[Value.ref b] s = true := fun w h => hts0 w (List.mem_filter.mp h).1
  have hown : s.vm.findClass RL = some m.cls := hown
  have hbA : ¬ (fun q : Nat => s.heap.size ≤ q) b := Nat.not_le.mpr hbl
  intro zD zM zO x4 H locs ls cells slots hb1 hb2 hP hD hS hl hf
  unfold f_L_law_209 at hf
  refine lv_goto (tgt := 917) hx hb dL_law_209 (by decide) ?_
  exact b_L_law_917 Q qM qO htr C0 hK hxh bf kb_23 hkb_23 zD zM zO x4 H locs ls _ _ (by omega) (by omega) hP hD hS (lv_sub hl [0, 1, 2, 3, 4] rfl) hf
def f_L_law_23 (xs : Nat → Int32) (L : Nat) : Nat → DeskS → MdS → OutS → Int32 → Option (Int32)
  | 0, _, _, _, _ => none
  | fu + 1, zD, zM, zO, x4 => if ((nI L) - (6 : Int32)) < x4 then some (1 : Int32) else if inb x4 L = true then if ((xs x4.toNatClampNeg) &&& (15 : Int32)) = 0 then if inb (x4 + (1 : Int32)) L = true then if inb (x4 + (2 : Int32)) L = true then if inb (x4 + (3 : Int32)) L = true then if inb (x4 + (4 : Int32)) L = true then if inb (x4 + (5 : Int32)) L = true then (f_L_type zD zO (xs (x4 + (1 : Int32)).toNatClampNeg) (xs (x4 + (2 : Int32)).toNatClampNeg) (xs (x4 + (3 : Int32)).toNatClampNeg) (xs (x4 + (4 : Int32)).toNatClampNeg) (xs (x4 + (5 : Int32)).toNatClampNeg)).bind fun r_9 => if inb (x4 + (1 : Int32)) L = true then if inb (x4 + (2 : Int32)) L = true then if inb (x4 + (3 : Int32)) L = true then if inb (x4 + (4 : Int32)) L = true then if inb (x4 + (5 : Int32)) L = true then (f_X7_type zM (xs (x4 + (1 : Int32)).toNatClampNeg) (xs (x4 + (2 : Int32)).toNatClampNeg) (xs (x4 + (3 : Int32)).toNatClampNeg) (xs (x4 + (4 : Int32)).toNatClampNeg) (xs (x4 + (5 : Int32)).toNatClampNeg)).bind fun r_15 => (f_X7_thrown r_15.2 ).bind fun r_16 => if r_16 = r_9.1 then if ¬ r_9.1 = 0 then f_L_law_209 xs L (fun zD_ zM_ zO_ x4_ => f_L_law_23 xs L fu zD_ zM_ zO_ x4_) r_9.2.1 r_15.2 r_9.2.2 x4 else if inb (0 : Int32) 1 = true then if (r_9.2.2 (0 : Int32).toNatClampNeg) = r_15.1.toInt64 then f_L_law_209 xs L (fun zD_ zM_ zO_ x4_ => f_L_law_23 xs L fu zD_ zM_ zO_ x4_) r_9.2.1 r_15.2 r_9.2.2 x4 else some (0 : Int32) else none else some (0 : Int32) else none else none else none else none else none else none else none else none else none else none else if ((xs x4.toNatClampNeg) &&& (15 : Int32)) = 1 then (f_X6_erase zD ).bind fun r_22 => (f_X7_erase zM ).bind fun r_23 => if r_22.1 = r_23.1 then f_L_law_917 xs L (fun zD_ zM_ zO_ x4_ => f_L_law_23 xs L fu zD_ zM_ zO_ x4_) r_22.2 r_23.2 zO x4 else some (0 : Int32) else if ((xs x4.toNatClampNeg) &&& (15 : Int32)) = 2 then if inb (x4 + (1 : Int32)) L = true then (f_L_read zD zO (xs (x4 + (1 : Int32)).toNatClampNeg)).bind fun r_27 => if inb (x4 + (1 : Int32)) L = true then (f_X7_read zM (xs (x4 + (1 : Int32)).toNatClampNeg)).bind fun r_29 => (f_X7_thrown r_29.2 ).bind fun r_30 => if r_30 = r_27.1 then if ¬ r_27.1 = 0 then f_L_law_278 xs L (fun zD_ zM_ zO_ x4_ => f_L_law_23 xs L fu zD_ zM_ zO_ x4_) r_27.2.1 r_29.2 r_27.2.2 x4 else if inb (0 : Int32) 1 = true then if (r_27.2.2 (0 : Int32).toNatClampNeg) = r_29.1.toInt64 then f_L_law_278 xs L (fun zD_ zM_ zO_ x4_ => f_L_law_23 xs L fu zD_ zM_ zO_ x4_) r_27.2.1 r_29.2 r_27.2.2 x4 else some (0 : Int32) else none else some (0 : Int32) else none else none else if ((xs x4.toNatClampNeg) &&& (15 : Int32)) = 3 then (f_X6_place zD ).bind fun r_36 => (f_X7_place zM ).bind fun r_37 => if r_36.1 = r_37.1 then f_L_law_917 xs L (fun zD_ zM_ zO_ x4_ => f_L_law_23 xs L fu zD_ zM_ zO_ x4_) r_36.2 r_37.2 zO x4 else some (0 : Int32) else if ((xs x4.toNatClampNeg) &&& (15 : Int32)) = 4 then if inb (x4 + (1 : Int32)) L = true then (f_L_write zD zO (xs (x4 + (1 : Int32)).toNatClampNeg)).bind fun r_41 => if inb (x4 + (1 : Int32)) L = true then (f_X7_write zM (xs (x4 + (1 : Int32)).toNatClampNeg)).bind fun r_43 => (f_X7_thrown r_43.2 ).bind fun r_44 => if r_44 = r_41.1 then if ¬ r_41.1 = 0 then f_L_law_347 xs L (fun zD_ zM_ zO_ x4_ => f_L_law_23 xs L fu zD_ zM_ zO_ x4_) r_41.2.1 r_43.2 r_41.2.2 x4 else if inb (0 : Int32) 1 = true then if (r_41.2.2 (0 : Int32).toNatClampNeg) = r_43.1.toInt64 then f_L_law_347 xs L (fun zD_ zM_ zO_ x4_ => f_L_law_23 xs L fu zD_ zM_ zO_ x4_) r_41.2.1 r_43.2 r_41.2.2 x4 else some (0 : Int32) else none else some (0 : Int32) else none else none else if ((xs x4.toNatClampNeg) &&& (15 : Int32)) = 5 then if inb (x4 + (1 : Int32)) L = true then (f_X6_output zD (xs (x4 + (1 : Int32)).toNatClampNeg)).bind fun r_51 => if inb (x4 + (1 : Int32)) L = true then (f_X7_output zM (xs (x4 + (1 : Int32)).toNatClampNeg)).bind fun r_53 => if r_51.1 = r_53.1 then f_L_law_917 xs L (fun zD_ zM_ zO_ x4_ => f_L_law_23 xs L fu zD_ zM_ zO_ x4_) r_51.2 r_53.2 zO x4 else some (0 : Int32) else none else none else if ((xs x4.toNatClampNeg) &&& (15 : Int32)) = 6 then if inb (x4 + (1 : Int32)) L = true then if inb (x4 + (2 : Int32)) L = true then if inb (x4 + (3 : Int32)) L = true then if inb (x4 + (4 : Int32)) L = true then if inb (x4 + (5 : Int32)) L = true then (f_L_add zD zO (xs (x4 + (1 : Int32)).toNatClampNeg) (xs (x4 + (2 : Int32)).toNatClampNeg) (xs (x4 + (3 : Int32)).toNatClampNeg) (xs (x4 + (4 : Int32)).toNatClampNeg) (xs (x4 + (5 : Int32)).toNatClampNeg)).bind fun r_61 => if inb (x4 + (1 : Int32)) L = true then if inb (x4 + (2 : Int32)) L = true then if inb (x4 + (3 : Int32)) L = true then if inb (x4 + (4 : Int32)) L = true then if inb (x4 + (5 : Int32)) L = true then (f_X7_add zM (xs (x4 + (1 : Int32)).toNatClampNeg) (xs (x4 + (2 : Int32)).toNatClampNeg) (xs (x4 + (3 : Int32)).toNatClampNeg) (xs (x4 + (4 : Int32)).toNatClampNeg) (xs (x4 + (5 : Int32)).toNatClampNeg)).bind fun r_67 => (f_X7_thrown r_67.2 ).bind fun r_68 => if r_68 = r_61.1 then if ¬ r_61.1 = 0 then f_L_law_476 xs L (fun zD_ zM_ zO_ x4_ => f_L_law_23 xs L fu zD_ zM_ zO_ x4_) r_61.2.1 r_67.2 r_61.2.2 x4 else if inb (0 : Int32) 1 = true then if (r_61.2.2 (0 : Int32).toNatClampNeg) = r_67.1.toInt64 then f_L_law_476 xs L (fun zD_ zM_ zO_ x4_ => f_L_law_23 xs L fu zD_ zM_ zO_ x4_) r_61.2.1 r_67.2 r_61.2.2 x4 else some (0 : Int32) else none else some (0 : Int32) else none else none else none else none else none else none else none else none else none else none else if ((xs x4.toNatClampNeg) &&& (15 : Int32)) = 7 then if inb (x4 + (1 : Int32)) L = true then if inb (x4 + (2 : Int32)) L = true then if inb (x4 + (3 : Int32)) L = true then (f_L_times zD zO (xs (x4 + (1 : Int32)).toNatClampNeg) (xs (x4 + (2 : Int32)).toNatClampNeg) (xs (x4 + (3 : Int32)).toNatClampNeg)).bind fun r_77 => if inb (x4 + (1 : Int32)) L = true then if inb (x4 + (2 : Int32)) L = true then if inb (x4 + (3 : Int32)) L = true then (f_X7_times zM (xs (x4 + (1 : Int32)).toNatClampNeg) (xs (x4 + (2 : Int32)).toNatClampNeg) (xs (x4 + (3 : Int32)).toNatClampNeg)).bind fun r_81 => (f_X7_thrown r_81.2 ).bind fun r_82 => if r_82 = r_77.1 then if ¬ r_77.1 = 0 then f_L_law_556 xs L (fun zD_ zM_ zO_ x4_ => f_L_law_23 xs L fu zD_ zM_ zO_ x4_) r_77.2.1 r_81.2 r_77.2.2 x4 else if inb (0 : Int32) 1 = true then if (r_77.2.2 (0 : Int32).toNatClampNeg) = r_81.1.toInt64 then f_L_law_556 xs L (fun zD_ zM_ zO_ x4_ => f_L_law_23 xs L fu zD_ zM_ zO_ x4_) r_77.2.1 r_81.2 r_77.2.2 x4 else some (0 : Int32) else none else some (0 : Int32) else none else none else none else none else none else none else if ((xs x4.toNatClampNeg) &&& (15 : Int32)) = 8 then if inb (x4 + (1 : Int32)) L = true then if inb (x4 + (2 : Int32)) L = true then (f_L_derive zD zO (xs (x4 + (1 : Int32)).toNatClampNeg) (xs (x4 + (2 : Int32)).toNatClampNeg)).bind fun r_90 => if inb (x4 + (1 : Int32)) L = true then if inb (x4 + (2 : Int32)) L = true then (f_X7_derive zM (xs (x4 + (1 : Int32)).toNatClampNeg) (xs (x4 + (2 : Int32)).toNatClampNeg)).bind fun r_93 => (f_X7_thrown r_93.2 ).bind fun r_94 => if r_94 = r_90.1 then if ¬ r_90.1 = 0 then f_L_law_624 xs L (fun zD_ zM_ zO_ x4_ => f_L_law_23 xs L fu zD_ zM_ zO_ x4_) r_90.2.1 r_93.2 r_90.2.2 x4 else if inb (0 : Int32) 1 = true then if (r_90.2.2 (0 : Int32).toNatClampNeg) = r_93.1.toInt64 then f_L_law_624 xs L (fun zD_ zM_ zO_ x4_ => f_L_law_23 xs L fu zD_ zM_ zO_ x4_) r_90.2.1 r_93.2 r_90.2.2 x4 else some (0 : Int32) else none else some (0 : Int32) else none else none else none else none else if ((xs x4.toNatClampNeg) &&& (15 : Int32)) = 9 then if inb (x4 + (1 : Int32)) L = true then if inb (x4 + (2 : Int32)) L = true then if inb (x4 + (3 : Int32)) L = true then (f_L_integrate zD zO (xs (x4 + (1 : Int32)).toNatClampNeg) (xs (x4 + (2 : Int32)).toNatClampNeg) (xs (x4 + (3 : Int32)).toNatClampNeg)).bind fun r_103 => if inb (x4 + (1 : Int32)) L = true then if inb (x4 + (2 : Int32)) L = true then if inb (x4 + (3 : Int32)) L = true then (f_X7_integrate zM (xs (x4 + (1 : Int32)).toNatClampNeg) (xs (x4 + (2 : Int32)).toNatClampNeg) (xs (x4 + (3 : Int32)).toNatClampNeg)).bind fun r_107 => (f_X7_thrown r_107.2 ).bind fun r_108 => if r_108 = r_103.1 then if ¬ r_103.1 = 0 then f_L_law_704 xs L (fun zD_ zM_ zO_ x4_ => f_L_law_23 xs L fu zD_ zM_ zO_ x4_) r_103.2.1 r_107.2 r_103.2.2 x4 else if inb (0 : Int32) 1 = true then if (r_103.2.2 (0 : Int32).toNatClampNeg) = r_107.1.toInt64 then f_L_law_704 xs L (fun zD_ zM_ zO_ x4_ => f_L_law_23 xs L fu zD_ zM_ zO_ x4_) r_103.2.1 r_107.2 r_103.2.2 x4 else some (0 : Int32) else none else some (0 : Int32) else none else none else none else none else none else none else if ((xs x4.toNatClampNeg) &&& (15 : Int32)) = 10 then if inb (x4 + (1 : Int32)) L = true then if inb (x4 + (2 : Int32)) L = true then (f_L_same zD zO (xs (x4 + (1 : Int32)).toNatClampNeg) (xs (x4 + (2 : Int32)).toNatClampNeg)).bind fun r_116 => if inb (x4 + (1 : Int32)) L = true then if inb (x4 + (2 : Int32)) L = true then (f_X7_same zM (xs (x4 + (1 : Int32)).toNatClampNeg) (xs (x4 + (2 : Int32)).toNatClampNeg)).bind fun r_119 => (f_X7_thrown r_119.2 ).bind fun r_120 => if r_120 = r_116.1 then if ¬ r_116.1 = 0 then f_L_law_779 xs L (fun zD_ zM_ zO_ x4_ => f_L_law_23 xs L fu zD_ zM_ zO_ x4_) r_116.2.1 r_119.2 r_116.2.2 x4 else if inb (0 : Int32) 1 = true then if r_119.1 = 0 then f_L_law_773 xs L (fun zD_ zM_ zO_ x4_ => f_L_law_23 xs L fu zD_ zM_ zO_ x4_) r_116.2.1 r_119.2 r_116.2.2 x4 (r_116.2.2 (0 : Int32).toNatClampNeg) (0 : Int64) else f_L_law_773 xs L (fun zD_ zM_ zO_ x4_ => f_L_law_23 xs L fu zD_ zM_ zO_ x4_) r_116.2.1 r_119.2 r_116.2.2 x4 (r_116.2.2 (0 : Int32).toNatClampNeg) (1 : Int64) else none else some (0 : Int32) else none else none else none else none else if ((xs x4.toNatClampNeg) &&& (15 : Int32)) = 11 then if inb (x4 + (1 : Int32)) L = true then (f_L_terms zD zO (xs (x4 + (1 : Int32)).toNatClampNeg)).bind fun r_127 => if inb (x4 + (1 : Int32)) L = true then (f_X7_terms zM (xs (x4 + (1 : Int32)).toNatClampNeg)).bind fun r_129 => (f_X7_thrown r_129.2 ).bind fun r_130 => if r_130 = r_127.1 then if ¬ r_127.1 = 0 then f_L_law_835 xs L (fun zD_ zM_ zO_ x4_ => f_L_law_23 xs L fu zD_ zM_ zO_ x4_) r_127.2.1 r_129.2 r_127.2.2 x4 else if inb (0 : Int32) 1 = true then if (r_127.2.2 (0 : Int32).toNatClampNeg) = r_129.1.toInt64 then f_L_law_835 xs L (fun zD_ zM_ zO_ x4_ => f_L_law_23 xs L fu zD_ zM_ zO_ x4_) r_127.2.1 r_129.2 r_127.2.2 x4 else some (0 : Int32) else none else some (0 : Int32) else none else none else if ((xs x4.toNatClampNeg) &&& (15 : Int32)) = 12 then if inb (x4 + (1 : Int32)) L = true then if inb (x4 + (2 : Int32)) L = true then if inb (x4 + (3 : Int32)) L = true then (f_L_term zD zO (xs (x4 + (1 : Int32)).toNatClampNeg) (xs (x4 + (2 : Int32)).toNatClampNeg) (xs (x4 + (3 : Int32)).toNatClampNeg)).bind fun r_139 => if inb (x4 + (1 : Int32)) L = true then if inb (x4 + (2 : Int32)) L = true then if inb (x4 + (3 : Int32)) L = true then (f_X7_term zM (xs (x4 + (1 : Int32)).toNatClampNeg) (xs (x4 + (2 : Int32)).toNatClampNeg) (xs (x4 + (3 : Int32)).toNatClampNeg)).bind fun r_143 => (f_X7_thrown r_143.2 ).bind fun r_144 => if r_144 = r_139.1 then if ¬ r_139.1 = 0 then f_L_law_914 xs L (fun zD_ zM_ zO_ x4_ => f_L_law_23 xs L fu zD_ zM_ zO_ x4_) r_139.2.1 r_143.2 r_139.2.2 x4 else if inb (0 : Int32) 1 = true then if (r_139.2.2 (0 : Int32).toNatClampNeg) = r_143.1 then f_L_law_914 xs L (fun zD_ zM_ zO_ x4_ => f_L_law_23 xs L fu zD_ zM_ zO_ x4_) r_139.2.1 r_143.2 r_139.2.2 x4 else some (0 : Int32) else none else some (0 : Int32) else none else none else none else none else none else none else f_L_law_917 xs L (fun zD_ zM_ zO_ x4_ => f_L_law_23 xs L fu zD_ zM_ zO_ x4_) zD zM zO x4 else none
set_option maxHeartbeats 4000000 in
set_option maxRecDepth 100000 in
theorem b_L_law_23 {p : Program} {l : Launch} {e : Env} {s : State} {m : MethodId} {below : List Frame} {meth : Method} {c : Code} {b L : Nat} {xs : Nat → Int32} {G : va_G} {cA : Nat → ClassId} {sa : Nat → Nat} (Q : Nat → Nat → Nat) (qM qO : Nat → Nat) (htr : l.stackTraces = false) (C0 : lw_At p s m meth c b L xs) (hK : kOK G cA s) (hxh : xH (fun q : Nat => s.heap.size ≤ q) sa s) : ∀ (fu : Nat) (zD : DeskS) (zM : MdS) (zO : OutS) (x4 : Int32) (H : Heap) (locs : List Loc) (ls : Array Slot) (cells slots : Nat), cells + fu ≤ 601024 → slots + 6 * fu ≤ 7293034 → va_P G vwCl (wDesk cA Q zD ++ (wMd cA qM zM ++ wOut cA qO zO)) H → va_D (fun q : Nat => s.heap.size ≤ q) (wDesk cA Q zD ++ (wMd cA qM zM ++ wOut cA qO zO)) → va_S (fun q : Nat => s.heap.size ≤ q) s.heap H locs → lv_has ls 8 [(0, .ref (b)), (1, .ref (Q 0 0)), (2, .ref (qM 0)), (3, .ref (qO 0)), (4, .int x4)] → f_L_law_23 xs L fu zD zM zO x4 = some 1 → W p l e room_1 s m #[Value.ref b] below meth c H locs cells slots (lw_Z below #[Value.ref b] s) (F0 m 23 ls []) := by
  obtain ⟨hx, hb, hr, hml, hown, hts0, hX, hbl, hlocks, hgv⟩ := id C0
  have hts : ∀ w ∈ wd, w.before #[Value.ref b] s = true := fun w h => hts0 w (List.mem_filter.mp h).1
  have hown : s.vm.findClass RL = some m.cls := hown
  have hbA : ¬ (fun q : Nat => s.heap.size ≤ q) b := Nat.not_le.mpr hbl
  intro fu
  induction fu with
  | zero =>
    intro zD zM zO x4 H locs ls cells slots hb1 hb2 hP hD hS hl hf
    rw [f_L_law_23] at hf
    cases hf
  | succ fu ih =>
    intro zD zM zO x4 H locs ls cells slots hb1 hb2 hP hD hS hl hf
    rw [f_L_law_23] at hf
    refine lv_iload hx hb dL_law_23 (lv_at hl 4 rfl) ?_
    refine lv_aload_n hx hb dL_law_25 rfl (lv_at hl 0 rfl) ?_
    refine va_slen hx hb hX hbl hbA hS dL_law_26 ?_
    refine W.eq (g2 := F0 m 27 ls [.int (nI L), .int x4]) rfl ?_
    refine lv_bipush (v := (6 : Int32)) hx hb dL_law_27 (by decide) ?_
    refine lv_isub hx hb dL_law_29 ?_
    refine lv_icmp_gt (tgt := 923) hx hb dL_law_30 (by decide) (fun c_1 => ?_) (fun c_1 => ?_)
    · rw [if_pos (c_1)] at hf
      refine lv_iconst (v := 1) hx hb dL_law_923 (by decide) ?_
      refine va_forget (fun q hq => hS.2.2 q hq) ?_
      refine W.widen (k := 601024) (n := 7293034) (by omega) (by omega) ?_
      exact lw_ret hx hb hr hlocks dL_law_924
    · rw [if_neg (c_1)] at hf
      refine lv_aload_n hx hb dL_law_33 rfl (lv_at hl 0 rfl) ?_
      refine lv_iload hx hb dL_law_34 (lv_at hl 4 rfl) ?_
      obtain ⟨hi_2, hf⟩ := oif hf
      refine va_sld hx hb hX hbl hbA hS (inb_in hi_2) dL_law_36 ?_
      refine lv_bipush (v := (15 : Int32)) hx hb dL_law_37 (by decide) ?_
      refine lv_iand hx hb dL_law_39 ?_
      by_cases c_3 : ((xs x4.toNatClampNeg) &&& (15 : Int32)) = 0
      · rw [if_pos c_3] at hf
        rw [c_3]
        refine lv_tableIn (tgt := 108) (off := 68) hx hb dL_law_40 (by decide) (by decide) (by decide) (by decide) ?_
        refine lv_aload_n hx hb dL_law_108 rfl (lv_at hl 1 rfl) ?_
        refine lv_aload_n hx hb dL_law_109 rfl (lv_at hl 0 rfl) ?_
        refine lv_iload hx hb dL_law_110 (lv_at hl 4 rfl) ?_
        refine lv_iconst (v := 1) hx hb dL_law_112 (by decide) ?_
        refine lv_iadd hx hb dL_law_113 ?_
        obtain ⟨hi_4, hf⟩ := oif hf
        refine va_sld hx hb hX hbl hbA hS (inb_in hi_4) dL_law_114 ?_
        refine lv_aload_n hx hb dL_law_115 rfl (lv_at hl 0 rfl) ?_
        refine lv_iload hx hb dL_law_116 (lv_at hl 4 rfl) ?_
        refine lv_iconst (v := 2) hx hb dL_law_118 (by decide) ?_
        refine lv_iadd hx hb dL_law_119 ?_
        obtain ⟨hi_5, hf⟩ := oif hf
        refine va_sld hx hb hX hbl hbA hS (inb_in hi_5) dL_law_120 ?_
        refine lv_aload_n hx hb dL_law_121 rfl (lv_at hl 0 rfl) ?_
        refine lv_iload hx hb dL_law_122 (lv_at hl 4 rfl) ?_
        refine lv_iconst (v := 3) hx hb dL_law_124 (by decide) ?_
        refine lv_iadd hx hb dL_law_125 ?_
        obtain ⟨hi_6, hf⟩ := oif hf
        refine va_sld hx hb hX hbl hbA hS (inb_in hi_6) dL_law_126 ?_
        refine lv_aload_n hx hb dL_law_127 rfl (lv_at hl 0 rfl) ?_
        refine lv_iload hx hb dL_law_128 (lv_at hl 4 rfl) ?_
        refine lv_iconst (v := 4) hx hb dL_law_130 (by decide) ?_
        refine lv_iadd hx hb dL_law_131 ?_
        obtain ⟨hi_7, hf⟩ := oif hf
        refine va_sld hx hb hX hbl hbA hS (inb_in hi_7) dL_law_132 ?_
        refine lv_aload_n hx hb dL_law_133 rfl (lv_at hl 0 rfl) ?_
        refine lv_iload hx hb dL_law_134 (lv_at hl 4 rfl) ?_
        refine lv_iconst (v := 5) hx hb dL_law_136 (by decide) ?_
        refine lv_iadd hx hb dL_law_137 ?_
        obtain ⟨hi_8, hf⟩ := oif hf
        refine va_sld hx hb hX hbl hbA hS (inb_in hi_8) dL_law_138 ?_
        refine lv_aload_n hx hb dL_law_139 rfl (lv_at hl 3 rfl) ?_
        obtain ⟨r_9, hr_9, hf⟩ := obd hf
        refine cHiS (As := [.ref (Q 0 0), .int (xs (x4 + (1 : Int32)).toNatClampNeg), .int (xs (x4 + (2 : Int32)).toNatClampNeg), .int (xs (x4 + (3 : Int32)).toNatClampNeg), .int (xs (x4 + (4 : Int32)).toNatClampNeg), .int (xs (x4 + (5 : Int32)).toNatClampNeg), .ref (qO 0)]) (rest := []) (W1 := (wDesk cA Q r_9.2.1 ++ (wMd cA qM zM ++ wOut cA qO r_9.2.2))) ⟨hx, hb, hml, hown, hts⟩ (m_L_type l htr G cA sa Q qO zD zO (xs (x4 + (1 : Int32)).toNatClampNeg) (xs (x4 + (2 : Int32)).toNatClampNeg) (xs (x4 + (3 : Int32)).toNatClampNeg) (xs (x4 + (4 : Int32)).toNatClampNeg) (xs (x4 + (5 : Int32)).toNatClampNeg) r_9 hr_9) (cw_L_type hts wi_218 ⟨Nat.le_of_ble_eq_true rfl, Nat.le_of_ble_eq_true rfl⟩) hK hP hD hS lawIs_DO lawBs_DO (lawC_DO cA Q qM qO _ _ _) (by decide) (lawB_DO cA Q qM qO _ _ _ _ _) (by decide) (lawAdr cA Q qM qO _ _ _ _ _ _) hxh rfl hl.1 rfl (Nat.le_of_ble_eq_true rfl) dL_law_140 ⟨by show _ ≤ 601024; omega, by show _ ≤ 7293034; omega⟩ (fun H locs hP hD hS => ?_)
        refine lv_istore (lv' := [(5, .int r_9.1), (0, .ref (b)), (1, .ref (Q 0 0)), (2, .ref (qM 0)), (3, .ref (qO 0)), (4, .int x4)]) hx hb dL_law_143 hl (by decide) rfl (fun ls hl => ?_)
        refine lv_aload_n hx hb dL_law_145 rfl (lv_at hl 3 rfl) ?_
        refine lv_aload_n hx hb dL_law_146 rfl (lv_at hl 1 rfl) ?_
        refine lv_iload hx hb dL_law_147 (lv_at hl 5 rfl) ?_
        refine lv_iconst (v := 1) hx hb dL_law_149 (by decide) ?_
        refine lv_iadd hx hb dL_law_150 ?_
        obtain ⟨hi_10, hf⟩ := oif hf
        refine va_sld hx hb hX hbl hbA hS (inb_in hi_10) dL_law_151 ?_
        refine lv_aload_n hx hb dL_law_152 rfl (lv_at hl 1 rfl) ?_
        refine lv_iload hx hb dL_law_153 (lv_at hl 5 rfl) ?_
        refine lv_iconst (v := 2) hx hb dL_law_155 (by decide) ?_
        refine lv_iadd hx hb dL_law_156 ?_
        obtain ⟨hi_11, hf⟩ := oif hf
        refine va_sld hx hb hX hbl hbA hS (inb_in hi_11) dL_law_157 ?_
        refine lv_aload_n hx hb dL_law_158 rfl (lv_at hl 1 rfl) ?_
        refine lv_iload hx hb dL_law_159 (lv_at hl 5 rfl) ?_
        refine lv_iconst (v := 3) hx hb dL_law_161 (by decide) ?_
        refine lv_iadd hx hb dL_law_162 ?_
        obtain ⟨hi_12, hf⟩ := oif hf
        refine va_sld hx hb hX hbl hbA hS (inb_in hi_12) dL_law_163 ?_
        refine lv_aload_n hx hb dL_law_164 rfl (lv_at hl 1 rfl) ?_
        refine lv_iload hx hb dL_law_165 (lv_at hl 5 rfl) ?_
        refine lv_iconst (v := 4) hx hb dL_law_167 (by decide) ?_
        refine lv_iadd hx hb dL_law_168 ?_
        obtain ⟨hi_13, hf⟩ := oif hf
        refine va_sld hx hb hX hbl hbA hS (inb_in hi_13) dL_law_169 ?_
        refine lv_aload_n hx hb dL_law_170 rfl (lv_at hl 1 rfl) ?_
        refine lv_iload hx hb dL_law_171 (lv_at hl 5 rfl) ?_
        refine lv_iconst (v := 5) hx hb dL_law_173 (by decide) ?_
        refine lv_iadd hx hb dL_law_174 ?_
        obtain ⟨hi_14, hf⟩ := oif hf
        refine va_sld hx hb hX hbl hbA hS (inb_in hi_14) dL_law_175 ?_
        obtain ⟨r_15, hr_15, hf⟩ := obd hf
        refine cWiV (As := [.int (xs (x4 + (1 : Int32)).toNatClampNeg), .int (xs (x4 + (2 : Int32)).toNatClampNeg), .int (xs (x4 + (3 : Int32)).toNatClampNeg), .int (xs (x4 + (4 : Int32)).toNatClampNeg), .int (xs (x4 + (5 : Int32)).toNatClampNeg)]) (rest := []) (W1 := (wDesk cA Q r_9.2.1 ++ (wMd cA qM r_15.2 ++ wOut cA qO r_9.2.2))) ⟨hx, hb, hml, hown, hts⟩ (m_X7_type l G cA qM zM (xs (x4 + (1 : Int32)).toNatClampNeg) (xs (x4 + (2 : Int32)).toNatClampNeg) (xs (x4 + (3 : Int32)).toNatClampNeg) (xs (x4 + (4 : Int32)).toNatClampNeg) (xs (x4 + (5 : Int32)).toNatClampNeg) r_15 hr_15) (cw_X7_type hts wi_715 ⟨Nat.le_of_ble_eq_true rfl, Nat.le_of_ble_eq_true rfl⟩) hK hP hD hS lawIs_M lawBs_M (lawC_M cA Q qM qO _ _ _) (by decide) (lawB_M cA Q qM qO _ _ _ _) (by decide) (lawAdr cA Q qM qO _ _ _ _ _ _) va_Pnil dj_nil (va_recv hK.1 hP (ci := 5) (q0 := 47) rfl rfl) rfl hl.1 rfl (Nat.le_of_ble_eq_true rfl) dL_law_176 ⟨by show _ ≤ 601024; omega, by show _ ≤ 7293034; omega⟩ (fun H locs hP hD hS => ?_)
        refine lv_istore (lv' := [(6, .int r_15.1), (5, .int r_9.1), (0, .ref (b)), (1, .ref (Q 0 0)), (2, .ref (qM 0)), (3, .ref (qO 0)), (4, .int x4)]) hx hb dL_law_179 hl (by decide) rfl (fun ls hl => ?_)
        refine lv_aload_n hx hb dL_law_181 rfl (lv_at hl 4 rfl) ?_
        obtain ⟨r_16, hr_16, hf⟩ := obd hf
        refine cRiV (As := []) (rest := []) ⟨hx, hb, hml, hown, hts⟩ (m_X7_thrown l G cA qM r_15.2  r_16 hr_16) (cw_X7_thrown hts wi_711 ⟨Nat.le_of_ble_eq_true rfl, Nat.le_of_ble_eq_true rfl⟩) hK (pk hP [47, 48, 49, 50, 51] (lawC_M cA Q qM qO _ _ _)) (va_recv hK.1 hP (ci := 5) (q0 := 47) rfl rfl) rfl hl.1 rfl (Nat.le_of_ble_eq_true rfl) dL_law_182 ⟨by show _ ≤ 601024; omega, by show _ ≤ 7293034; omega⟩ ?_
        refine lv_iload hx hb dL_law_185 (lv_at hl 1 rfl) ?_
        refine lv_icmp_eq (tgt := 192) hx hb dL_law_187 (by decide) (fun c_17 => ?_) (fun c_17 => ?_)
        · rw [if_pos (c_17)] at hf
          refine lv_iload hx hb dL_law_192 (lv_at hl 1 rfl) ?_
          refine lv_if_ne (tgt := 209) hx hb dL_law_194 (by decide) (fun c_18 => ?_) (fun c_18 => ?_)
          · rw [if_pos (c_18)] at hf
            exact b_L_law_209 Q qM qO htr C0 hK hxh fu (fun zD_ zM_ zO_ x4_ => f_L_law_23 xs L fu zD_ zM_ zO_ x4_) ih r_9.2.1 r_15.2 r_9.2.2 x4 H locs ls _ _ (by omega) (by omega) hP hD hS (lv_sub hl [2, 3, 4, 5, 6] rfl) hf
          · rw [if_neg (not_not_intro c_18)] at hf
            refine lv_aload_n hx hb dL_law_197 rfl (lv_at hl 5 rfl) ?_
            refine lv_iconst (v := 0) hx hb dL_law_198 (by decide) ?_
            obtain ⟨hi_19, hf⟩ := oif hf
            refine va_lald hx hb hK.1 hP 52 1 rfl rfl (inb_in hi_19) dL_law_199 ?_
            refine lv_iload hx hb dL_law_200 (lv_at hl 0 rfl) ?_
            refine lv_i2l (v := r_15.1.toInt64) hx hb dL_law_202 rfl ?_
            refine W.lcmp hx hb dL_law_203 ?_
            refine lv_if_eq (tgt := 209) hx hb dL_law_204 (by decide) (fun c_20 => ?_) (fun c_20 => ?_)
            · rw [if_pos ((lg_cmp_eq _ _).mp c_20)] at hf
              exact b_L_law_209 Q qM qO htr C0 hK hxh fu (fun zD_ zM_ zO_ x4_ => f_L_law_23 xs L fu zD_ zM_ zO_ x4_) ih r_9.2.1 r_15.2 r_9.2.2 x4 H locs ls _ _ (by omega) (by omega) hP hD hS (lv_sub hl [2, 3, 4, 5, 6] rfl) hf
            · rw [if_neg (fun h => c_20 ((lg_cmp_eq _ _).mpr h))] at hf
              refine lv_iconst (v := 0) hx hb dL_law_207 (by decide) ?_
              exact absurd (Option.some.inj hf) (by decide)
        · rw [if_neg (c_17)] at hf
          refine lv_iconst (v := 0) hx hb dL_law_190 (by decide) ?_
          exact absurd (Option.some.inj hf) (by decide)
      · rw [if_neg c_3] at hf
        by_cases c_21 : ((xs x4.toNatClampNeg) &&& (15 : Int32)) = 1
        · rw [if_pos c_21] at hf
          rw [c_21]
          refine lv_tableIn (tgt := 212) (off := 172) hx hb dL_law_40 (by decide) (by decide) (by decide) (by decide) ?_
          refine lv_aload_n hx hb dL_law_212 rfl (lv_at hl 1 rfl) ?_
          obtain ⟨r_22, hr_22, hf⟩ := obd hf
          refine cWiV (As := []) (rest := []) (W1 := (wDesk cA Q r_22.2 ++ (wMd cA qM zM ++ wOut cA qO zO))) ⟨hx, hb, hml, hown, hts⟩ (m_X6_erase l G cA Q zD  r_22 hr_22) (cw_X6_erase hts wi_190 ⟨Nat.le_of_ble_eq_true rfl, Nat.le_of_ble_eq_true rfl⟩) hK hP hD hS lawIs_D lawBs_D (lawC_D cA Q qM qO _ _ _) (by decide) (lawB_D cA Q qM qO _ _ _ _) (by decide) (lawAdr cA Q qM qO _ _ _ _ _ _) va_Pnil dj_nil (va_recv hK.1 hP (ci := 4) (q0 := 0) rfl rfl) rfl hl.1 rfl (Nat.le_of_ble_eq_true rfl) dL_law_213 ⟨by show _ ≤ 601024; omega, by show _ ≤ 7293034; omega⟩ (fun H locs hP hD hS => ?_)
          refine lv_aload_n hx hb dL_law_216 rfl (lv_at hl 2 rfl) ?_
          obtain ⟨r_23, hr_23, hf⟩ := obd hf
          refine cWiV (As := []) (rest := [.int r_22.1]) (W1 := (wDesk cA Q r_22.2 ++ (wMd cA qM r_23.2 ++ wOut cA qO zO))) ⟨hx, hb, hml, hown, hts⟩ (m_X7_erase l G cA qM zM  r_23 hr_23) (cw_X7_erase hts wi_727 ⟨Nat.le_of_ble_eq_true rfl, Nat.le_of_ble_eq_true rfl⟩) hK hP hD hS lawIs_M lawBs_M (lawC_M cA Q qM qO _ _ _) (by decide) (lawB_M cA Q qM qO _ _ _ _) (by decide) (lawAdr cA Q qM qO _ _ _ _ _ _) va_Pnil dj_nil (va_recv hK.1 hP (ci := 5) (q0 := 47) rfl rfl) rfl hl.1 rfl (Nat.le_of_ble_eq_true rfl) dL_law_217 ⟨by show _ ≤ 601024; omega, by show _ ≤ 7293034; omega⟩ (fun H locs hP hD hS => ?_)
          refine lv_icmp_eq (tgt := 917) hx hb dL_law_220 (by decide) (fun c_24 => ?_) (fun c_24 => ?_)
          · rw [if_pos (c_24)] at hf
            exact b_L_law_917 Q qM qO htr C0 hK hxh fu (fun zD_ zM_ zO_ x4_ => f_L_law_23 xs L fu zD_ zM_ zO_ x4_) ih r_22.2 r_23.2 zO x4 H locs ls _ _ (by omega) (by omega) hP hD hS (lv_sub hl [0, 1, 2, 3, 4] rfl) hf
          · rw [if_neg (c_24)] at hf
            refine lv_iconst (v := 0) hx hb dL_law_223 (by decide) ?_
            exact absurd (Option.some.inj hf) (by decide)
        · rw [if_neg c_21] at hf
          by_cases c_25 : ((xs x4.toNatClampNeg) &&& (15 : Int32)) = 2
          · rw [if_pos c_25] at hf
            rw [c_25]
            refine lv_tableIn (tgt := 225) (off := 185) hx hb dL_law_40 (by decide) (by decide) (by decide) (by decide) ?_
            refine lv_aload_n hx hb dL_law_225 rfl (lv_at hl 1 rfl) ?_
            refine lv_aload_n hx hb dL_law_226 rfl (lv_at hl 0 rfl) ?_
            refine lv_iload hx hb dL_law_227 (lv_at hl 4 rfl) ?_
            refine lv_iconst (v := 1) hx hb dL_law_229 (by decide) ?_
            refine lv_iadd hx hb dL_law_230 ?_
            obtain ⟨hi_26, hf⟩ := oif hf
            refine va_sld hx hb hX hbl hbA hS (inb_in hi_26) dL_law_231 ?_
            refine lv_aload_n hx hb dL_law_232 rfl (lv_at hl 3 rfl) ?_
            obtain ⟨r_27, hr_27, hf⟩ := obd hf
            refine cHiS (As := [.ref (Q 0 0), .int (xs (x4 + (1 : Int32)).toNatClampNeg), .ref (qO 0)]) (rest := []) (W1 := (wDesk cA Q r_27.2.1 ++ (wMd cA qM zM ++ wOut cA qO r_27.2.2))) ⟨hx, hb, hml, hown, hts⟩ (m_L_read l htr G cA sa Q qO zD zO (xs (x4 + (1 : Int32)).toNatClampNeg) r_27 hr_27) (cw_L_read hts wi_300 ⟨Nat.le_of_ble_eq_true rfl, Nat.le_of_ble_eq_true rfl⟩) hK hP hD hS lawIs_DO lawBs_DO (lawC_DO cA Q qM qO _ _ _) (by decide) (lawB_DO cA Q qM qO _ _ _ _ _) (by decide) (lawAdr cA Q qM qO _ _ _ _ _ _) hxh rfl hl.1 rfl (Nat.le_of_ble_eq_true rfl) dL_law_233 ⟨by show _ ≤ 601024; omega, by show _ ≤ 7293034; omega⟩ (fun H locs hP hD hS => ?_)
            refine lv_istore (lv' := [(5, .int r_27.1), (0, .ref (b)), (1, .ref (Q 0 0)), (2, .ref (qM 0)), (3, .ref (qO 0)), (4, .int x4)]) hx hb dL_law_236 hl (by decide) rfl (fun ls hl => ?_)
            refine lv_aload_n hx hb dL_law_238 rfl (lv_at hl 3 rfl) ?_
            refine lv_aload_n hx hb dL_law_239 rfl (lv_at hl 1 rfl) ?_
            refine lv_iload hx hb dL_law_240 (lv_at hl 5 rfl) ?_
            refine lv_iconst (v := 1) hx hb dL_law_242 (by decide) ?_
            refine lv_iadd hx hb dL_law_243 ?_
            obtain ⟨hi_28, hf⟩ := oif hf
            refine va_sld hx hb hX hbl hbA hS (inb_in hi_28) dL_law_244 ?_
            obtain ⟨r_29, hr_29, hf⟩ := obd hf
            refine cWiV (As := [.int (xs (x4 + (1 : Int32)).toNatClampNeg)]) (rest := []) (W1 := (wDesk cA Q r_27.2.1 ++ (wMd cA qM r_29.2 ++ wOut cA qO r_27.2.2))) ⟨hx, hb, hml, hown, hts⟩ (m_X7_read l G cA qM zM (xs (x4 + (1 : Int32)).toNatClampNeg) r_29 hr_29) (cw_X7_read hts wi_731 ⟨Nat.le_of_ble_eq_true rfl, Nat.le_of_ble_eq_true rfl⟩) hK hP hD hS lawIs_M lawBs_M (lawC_M cA Q qM qO _ _ _) (by decide) (lawB_M cA Q qM qO _ _ _ _) (by decide) (lawAdr cA Q qM qO _ _ _ _ _ _) va_Pnil dj_nil (va_recv hK.1 hP (ci := 5) (q0 := 47) rfl rfl) rfl hl.1 rfl (Nat.le_of_ble_eq_true rfl) dL_law_245 ⟨by show _ ≤ 601024; omega, by show _ ≤ 7293034; omega⟩ (fun H locs hP hD hS => ?_)
            refine lv_istore (lv' := [(6, .int r_29.1), (5, .int r_27.1), (0, .ref (b)), (1, .ref (Q 0 0)), (2, .ref (qM 0)), (3, .ref (qO 0)), (4, .int x4)]) hx hb dL_law_248 hl (by decide) rfl (fun ls hl => ?_)
            refine lv_aload_n hx hb dL_law_250 rfl (lv_at hl 4 rfl) ?_
            obtain ⟨r_30, hr_30, hf⟩ := obd hf
            refine cRiV (As := []) (rest := []) ⟨hx, hb, hml, hown, hts⟩ (m_X7_thrown l G cA qM r_29.2  r_30 hr_30) (cw_X7_thrown hts wi_711 ⟨Nat.le_of_ble_eq_true rfl, Nat.le_of_ble_eq_true rfl⟩) hK (pk hP [47, 48, 49, 50, 51] (lawC_M cA Q qM qO _ _ _)) (va_recv hK.1 hP (ci := 5) (q0 := 47) rfl rfl) rfl hl.1 rfl (Nat.le_of_ble_eq_true rfl) dL_law_251 ⟨by show _ ≤ 601024; omega, by show _ ≤ 7293034; omega⟩ ?_
            refine lv_iload hx hb dL_law_254 (lv_at hl 1 rfl) ?_
            refine lv_icmp_eq (tgt := 261) hx hb dL_law_256 (by decide) (fun c_31 => ?_) (fun c_31 => ?_)
            · rw [if_pos (c_31)] at hf
              refine lv_iload hx hb dL_law_261 (lv_at hl 1 rfl) ?_
              refine lv_if_ne (tgt := 278) hx hb dL_law_263 (by decide) (fun c_32 => ?_) (fun c_32 => ?_)
              · rw [if_pos (c_32)] at hf
                exact b_L_law_278 Q qM qO htr C0 hK hxh fu (fun zD_ zM_ zO_ x4_ => f_L_law_23 xs L fu zD_ zM_ zO_ x4_) ih r_27.2.1 r_29.2 r_27.2.2 x4 H locs ls _ _ (by omega) (by omega) hP hD hS (lv_sub hl [2, 3, 4, 5, 6] rfl) hf
              · rw [if_neg (not_not_intro c_32)] at hf
                refine lv_aload_n hx hb dL_law_266 rfl (lv_at hl 5 rfl) ?_
                refine lv_iconst (v := 0) hx hb dL_law_267 (by decide) ?_
                obtain ⟨hi_33, hf⟩ := oif hf
                refine va_lald hx hb hK.1 hP 52 1 rfl rfl (inb_in hi_33) dL_law_268 ?_
                refine lv_iload hx hb dL_law_269 (lv_at hl 0 rfl) ?_
                refine lv_i2l (v := r_29.1.toInt64) hx hb dL_law_271 rfl ?_
                refine W.lcmp hx hb dL_law_272 ?_
                refine lv_if_eq (tgt := 278) hx hb dL_law_273 (by decide) (fun c_34 => ?_) (fun c_34 => ?_)
                · rw [if_pos ((lg_cmp_eq _ _).mp c_34)] at hf
                  exact b_L_law_278 Q qM qO htr C0 hK hxh fu (fun zD_ zM_ zO_ x4_ => f_L_law_23 xs L fu zD_ zM_ zO_ x4_) ih r_27.2.1 r_29.2 r_27.2.2 x4 H locs ls _ _ (by omega) (by omega) hP hD hS (lv_sub hl [2, 3, 4, 5, 6] rfl) hf
                · rw [if_neg (fun h => c_34 ((lg_cmp_eq _ _).mpr h))] at hf
                  refine lv_iconst (v := 0) hx hb dL_law_276 (by decide) ?_
                  exact absurd (Option.some.inj hf) (by decide)
            · rw [if_neg (c_31)] at hf
              refine lv_iconst (v := 0) hx hb dL_law_259 (by decide) ?_
              exact absurd (Option.some.inj hf) (by decide)
          · rw [if_neg c_25] at hf
            by_cases c_35 : ((xs x4.toNatClampNeg) &&& (15 : Int32)) = 3
            · rw [if_pos c_35] at hf
              rw [c_35]
              refine lv_tableIn (tgt := 281) (off := 241) hx hb dL_law_40 (by decide) (by decide) (by decide) (by decide) ?_
              refine lv_aload_n hx hb dL_law_281 rfl (lv_at hl 1 rfl) ?_
              obtain ⟨r_36, hr_36, hf⟩ := obd hf
              refine cWiV (As := []) (rest := []) (W1 := (wDesk cA Q r_36.2 ++ (wMd cA qM zM ++ wOut cA qO zO))) ⟨hx, hb, hml, hown, hts⟩ (m_X6_place l G cA Q zD  r_36 hr_36) (cw_X6_place hts wi_202 ⟨Nat.le_of_ble_eq_true rfl, Nat.le_of_ble_eq_true rfl⟩) hK hP hD hS lawIs_D lawBs_D (lawC_D cA Q qM qO _ _ _) (by decide) (lawB_D cA Q qM qO _ _ _ _) (by decide) (lawAdr cA Q qM qO _ _ _ _ _ _) va_Pnil dj_nil (va_recv hK.1 hP (ci := 4) (q0 := 0) rfl rfl) rfl hl.1 rfl (Nat.le_of_ble_eq_true rfl) dL_law_282 ⟨by show _ ≤ 601024; omega, by show _ ≤ 7293034; omega⟩ (fun H locs hP hD hS => ?_)
              refine lv_aload_n hx hb dL_law_285 rfl (lv_at hl 2 rfl) ?_
              obtain ⟨r_37, hr_37, hf⟩ := obd hf
              refine cWiV (As := []) (rest := [.int r_36.1]) (W1 := (wDesk cA Q r_36.2 ++ (wMd cA qM r_37.2 ++ wOut cA qO zO))) ⟨hx, hb, hml, hown, hts⟩ (m_X7_place l G cA qM zM  r_37 hr_37) (cw_X7_place hts wi_806 ⟨Nat.le_of_ble_eq_true rfl, Nat.le_of_ble_eq_true rfl⟩) hK hP hD hS lawIs_M lawBs_M (lawC_M cA Q qM qO _ _ _) (by decide) (lawB_M cA Q qM qO _ _ _ _) (by decide) (lawAdr cA Q qM qO _ _ _ _ _ _) va_Pnil dj_nil (va_recv hK.1 hP (ci := 5) (q0 := 47) rfl rfl) rfl hl.1 rfl (Nat.le_of_ble_eq_true rfl) dL_law_286 ⟨by show _ ≤ 601024; omega, by show _ ≤ 7293034; omega⟩ (fun H locs hP hD hS => ?_)
              refine lv_icmp_eq (tgt := 917) hx hb dL_law_289 (by decide) (fun c_38 => ?_) (fun c_38 => ?_)
              · rw [if_pos (c_38)] at hf
                exact b_L_law_917 Q qM qO htr C0 hK hxh fu (fun zD_ zM_ zO_ x4_ => f_L_law_23 xs L fu zD_ zM_ zO_ x4_) ih r_36.2 r_37.2 zO x4 H locs ls _ _ (by omega) (by omega) hP hD hS (lv_sub hl [0, 1, 2, 3, 4] rfl) hf
              · rw [if_neg (c_38)] at hf
                refine lv_iconst (v := 0) hx hb dL_law_292 (by decide) ?_
                exact absurd (Option.some.inj hf) (by decide)
            · rw [if_neg c_35] at hf
              by_cases c_39 : ((xs x4.toNatClampNeg) &&& (15 : Int32)) = 4
              · rw [if_pos c_39] at hf
                rw [c_39]
                refine lv_tableIn (tgt := 294) (off := 254) hx hb dL_law_40 (by decide) (by decide) (by decide) (by decide) ?_
                refine lv_aload_n hx hb dL_law_294 rfl (lv_at hl 1 rfl) ?_
                refine lv_aload_n hx hb dL_law_295 rfl (lv_at hl 0 rfl) ?_
                refine lv_iload hx hb dL_law_296 (lv_at hl 4 rfl) ?_
                refine lv_iconst (v := 1) hx hb dL_law_298 (by decide) ?_
                refine lv_iadd hx hb dL_law_299 ?_
                obtain ⟨hi_40, hf⟩ := oif hf
                refine va_sld hx hb hX hbl hbA hS (inb_in hi_40) dL_law_300 ?_
                refine lv_aload_n hx hb dL_law_301 rfl (lv_at hl 3 rfl) ?_
                obtain ⟨r_41, hr_41, hf⟩ := obd hf
                refine cHiS (As := [.ref (Q 0 0), .int (xs (x4 + (1 : Int32)).toNatClampNeg), .ref (qO 0)]) (rest := []) (W1 := (wDesk cA Q r_41.2.1 ++ (wMd cA qM zM ++ wOut cA qO r_41.2.2))) ⟨hx, hb, hml, hown, hts⟩ (m_L_write l htr G cA sa Q qO zD zO (xs (x4 + (1 : Int32)).toNatClampNeg) r_41 hr_41) (cw_L_write hts wi_464 ⟨Nat.le_of_ble_eq_true rfl, Nat.le_of_ble_eq_true rfl⟩) hK hP hD hS lawIs_DO lawBs_DO (lawC_DO cA Q qM qO _ _ _) (by decide) (lawB_DO cA Q qM qO _ _ _ _ _) (by decide) (lawAdr cA Q qM qO _ _ _ _ _ _) hxh rfl hl.1 rfl (Nat.le_of_ble_eq_true rfl) dL_law_302 ⟨by show _ ≤ 601024; omega, by show _ ≤ 7293034; omega⟩ (fun H locs hP hD hS => ?_)
                refine lv_istore (lv' := [(5, .int r_41.1), (0, .ref (b)), (1, .ref (Q 0 0)), (2, .ref (qM 0)), (3, .ref (qO 0)), (4, .int x4)]) hx hb dL_law_305 hl (by decide) rfl (fun ls hl => ?_)
                refine lv_aload_n hx hb dL_law_307 rfl (lv_at hl 3 rfl) ?_
                refine lv_aload_n hx hb dL_law_308 rfl (lv_at hl 1 rfl) ?_
                refine lv_iload hx hb dL_law_309 (lv_at hl 5 rfl) ?_
                refine lv_iconst (v := 1) hx hb dL_law_311 (by decide) ?_
                refine lv_iadd hx hb dL_law_312 ?_
                obtain ⟨hi_42, hf⟩ := oif hf
                refine va_sld hx hb hX hbl hbA hS (inb_in hi_42) dL_law_313 ?_
                obtain ⟨r_43, hr_43, hf⟩ := obd hf
                refine cWiV (As := [.int (xs (x4 + (1 : Int32)).toNatClampNeg)]) (rest := []) (W1 := (wDesk cA Q r_41.2.1 ++ (wMd cA qM r_43.2 ++ wOut cA qO r_41.2.2))) ⟨hx, hb, hml, hown, hts⟩ (m_X7_write l G cA qM zM (xs (x4 + (1 : Int32)).toNatClampNeg) r_43 hr_43) (cw_X7_write hts wi_810 ⟨Nat.le_of_ble_eq_true rfl, Nat.le_of_ble_eq_true rfl⟩) hK hP hD hS lawIs_M lawBs_M (lawC_M cA Q qM qO _ _ _) (by decide) (lawB_M cA Q qM qO _ _ _ _) (by decide) (lawAdr cA Q qM qO _ _ _ _ _ _) va_Pnil dj_nil (va_recv hK.1 hP (ci := 5) (q0 := 47) rfl rfl) rfl hl.1 rfl (Nat.le_of_ble_eq_true rfl) dL_law_314 ⟨by show _ ≤ 601024; omega, by show _ ≤ 7293034; omega⟩ (fun H locs hP hD hS => ?_)
                refine lv_istore (lv' := [(6, .int r_43.1), (5, .int r_41.1), (0, .ref (b)), (1, .ref (Q 0 0)), (2, .ref (qM 0)), (3, .ref (qO 0)), (4, .int x4)]) hx hb dL_law_317 hl (by decide) rfl (fun ls hl => ?_)
                refine lv_aload_n hx hb dL_law_319 rfl (lv_at hl 4 rfl) ?_
                obtain ⟨r_44, hr_44, hf⟩ := obd hf
                refine cRiV (As := []) (rest := []) ⟨hx, hb, hml, hown, hts⟩ (m_X7_thrown l G cA qM r_43.2  r_44 hr_44) (cw_X7_thrown hts wi_711 ⟨Nat.le_of_ble_eq_true rfl, Nat.le_of_ble_eq_true rfl⟩) hK (pk hP [47, 48, 49, 50, 51] (lawC_M cA Q qM qO _ _ _)) (va_recv hK.1 hP (ci := 5) (q0 := 47) rfl rfl) rfl hl.1 rfl (Nat.le_of_ble_eq_true rfl) dL_law_320 ⟨by show _ ≤ 601024; omega, by show _ ≤ 7293034; omega⟩ ?_
                refine lv_iload hx hb dL_law_323 (lv_at hl 1 rfl) ?_
                refine lv_icmp_eq (tgt := 330) hx hb dL_law_325 (by decide) (fun c_45 => ?_) (fun c_45 => ?_)
                · rw [if_pos (c_45)] at hf
                  refine lv_iload hx hb dL_law_330 (lv_at hl 1 rfl) ?_
                  refine lv_if_ne (tgt := 347) hx hb dL_law_332 (by decide) (fun c_46 => ?_) (fun c_46 => ?_)
                  · rw [if_pos (c_46)] at hf
                    exact b_L_law_347 Q qM qO htr C0 hK hxh fu (fun zD_ zM_ zO_ x4_ => f_L_law_23 xs L fu zD_ zM_ zO_ x4_) ih r_41.2.1 r_43.2 r_41.2.2 x4 H locs ls _ _ (by omega) (by omega) hP hD hS (lv_sub hl [2, 3, 4, 5, 6] rfl) hf
                  · rw [if_neg (not_not_intro c_46)] at hf
                    refine lv_aload_n hx hb dL_law_335 rfl (lv_at hl 5 rfl) ?_
                    refine lv_iconst (v := 0) hx hb dL_law_336 (by decide) ?_
                    obtain ⟨hi_47, hf⟩ := oif hf
                    refine va_lald hx hb hK.1 hP 52 1 rfl rfl (inb_in hi_47) dL_law_337 ?_
                    refine lv_iload hx hb dL_law_338 (lv_at hl 0 rfl) ?_
                    refine lv_i2l (v := r_43.1.toInt64) hx hb dL_law_340 rfl ?_
                    refine W.lcmp hx hb dL_law_341 ?_
                    refine lv_if_eq (tgt := 347) hx hb dL_law_342 (by decide) (fun c_48 => ?_) (fun c_48 => ?_)
                    · rw [if_pos ((lg_cmp_eq _ _).mp c_48)] at hf
                      exact b_L_law_347 Q qM qO htr C0 hK hxh fu (fun zD_ zM_ zO_ x4_ => f_L_law_23 xs L fu zD_ zM_ zO_ x4_) ih r_41.2.1 r_43.2 r_41.2.2 x4 H locs ls _ _ (by omega) (by omega) hP hD hS (lv_sub hl [2, 3, 4, 5, 6] rfl) hf
                    · rw [if_neg (fun h => c_48 ((lg_cmp_eq _ _).mpr h))] at hf
                      refine lv_iconst (v := 0) hx hb dL_law_345 (by decide) ?_
                      exact absurd (Option.some.inj hf) (by decide)
                · rw [if_neg (c_45)] at hf
                  refine lv_iconst (v := 0) hx hb dL_law_328 (by decide) ?_
                  exact absurd (Option.some.inj hf) (by decide)
              · rw [if_neg c_39] at hf
                by_cases c_49 : ((xs x4.toNatClampNeg) &&& (15 : Int32)) = 5
                · rw [if_pos c_49] at hf
                  rw [c_49]
                  refine lv_tableIn (tgt := 350) (off := 310) hx hb dL_law_40 (by decide) (by decide) (by decide) (by decide) ?_
                  refine lv_aload_n hx hb dL_law_350 rfl (lv_at hl 1 rfl) ?_
                  refine lv_aload_n hx hb dL_law_351 rfl (lv_at hl 0 rfl) ?_
                  refine lv_iload hx hb dL_law_352 (lv_at hl 4 rfl) ?_
                  refine lv_iconst (v := 1) hx hb dL_law_354 (by decide) ?_
                  refine lv_iadd hx hb dL_law_355 ?_
                  obtain ⟨hi_50, hf⟩ := oif hf
                  refine va_sld hx hb hX hbl hbA hS (inb_in hi_50) dL_law_356 ?_
                  obtain ⟨r_51, hr_51, hf⟩ := obd hf
                  refine cWiV (As := [.int (xs (x4 + (1 : Int32)).toNatClampNeg)]) (rest := []) (W1 := (wDesk cA Q r_51.2 ++ (wMd cA qM zM ++ wOut cA qO zO))) ⟨hx, hb, hml, hown, hts⟩ (m_X6_output l G cA Q zD (xs (x4 + (1 : Int32)).toNatClampNeg) r_51 hr_51) (cw_X6_output hts wi_210 ⟨Nat.le_of_ble_eq_true rfl, Nat.le_of_ble_eq_true rfl⟩) hK hP hD hS lawIs_D lawBs_D (lawC_D cA Q qM qO _ _ _) (by decide) (lawB_D cA Q qM qO _ _ _ _) (by decide) (lawAdr cA Q qM qO _ _ _ _ _ _) va_Pnil dj_nil (va_recv hK.1 hP (ci := 4) (q0 := 0) rfl rfl) rfl hl.1 rfl (Nat.le_of_ble_eq_true rfl) dL_law_357 ⟨by show _ ≤ 601024; omega, by show _ ≤ 7293034; omega⟩ (fun H locs hP hD hS => ?_)
                  refine lv_aload_n hx hb dL_law_360 rfl (lv_at hl 2 rfl) ?_
                  refine lv_aload_n hx hb dL_law_361 rfl (lv_at hl 0 rfl) ?_
                  refine lv_iload hx hb dL_law_362 (lv_at hl 4 rfl) ?_
                  refine lv_iconst (v := 1) hx hb dL_law_364 (by decide) ?_
                  refine lv_iadd hx hb dL_law_365 ?_
                  obtain ⟨hi_52, hf⟩ := oif hf
                  refine va_sld hx hb hX hbl hbA hS (inb_in hi_52) dL_law_366 ?_
                  obtain ⟨r_53, hr_53, hf⟩ := obd hf
                  refine cWiV (As := [.int (xs (x4 + (1 : Int32)).toNatClampNeg)]) (rest := [.int r_51.1]) (W1 := (wDesk cA Q r_51.2 ++ (wMd cA qM r_53.2 ++ wOut cA qO zO))) ⟨hx, hb, hml, hown, hts⟩ (m_X7_output l G cA qM zM (xs (x4 + (1 : Int32)).toNatClampNeg) r_53 hr_53) (cw_X7_output hts wi_839 ⟨Nat.le_of_ble_eq_true rfl, Nat.le_of_ble_eq_true rfl⟩) hK hP hD hS lawIs_M lawBs_M (lawC_M cA Q qM qO _ _ _) (by decide) (lawB_M cA Q qM qO _ _ _ _) (by decide) (lawAdr cA Q qM qO _ _ _ _ _ _) va_Pnil dj_nil (va_recv hK.1 hP (ci := 5) (q0 := 47) rfl rfl) rfl hl.1 rfl (Nat.le_of_ble_eq_true rfl) dL_law_367 ⟨by show _ ≤ 601024; omega, by show _ ≤ 7293034; omega⟩ (fun H locs hP hD hS => ?_)
                  refine lv_icmp_eq (tgt := 917) hx hb dL_law_370 (by decide) (fun c_54 => ?_) (fun c_54 => ?_)
                  · rw [if_pos (c_54)] at hf
                    exact b_L_law_917 Q qM qO htr C0 hK hxh fu (fun zD_ zM_ zO_ x4_ => f_L_law_23 xs L fu zD_ zM_ zO_ x4_) ih r_51.2 r_53.2 zO x4 H locs ls _ _ (by omega) (by omega) hP hD hS (lv_sub hl [0, 1, 2, 3, 4] rfl) hf
                  · rw [if_neg (c_54)] at hf
                    refine lv_iconst (v := 0) hx hb dL_law_373 (by decide) ?_
                    exact absurd (Option.some.inj hf) (by decide)
                · rw [if_neg c_49] at hf
                  by_cases c_55 : ((xs x4.toNatClampNeg) &&& (15 : Int32)) = 6
                  · rw [if_pos c_55] at hf
                    rw [c_55]
                    refine lv_tableIn (tgt := 375) (off := 335) hx hb dL_law_40 (by decide) (by decide) (by decide) (by decide) ?_
                    refine lv_aload_n hx hb dL_law_375 rfl (lv_at hl 1 rfl) ?_
                    refine lv_aload_n hx hb dL_law_376 rfl (lv_at hl 0 rfl) ?_
                    refine lv_iload hx hb dL_law_377 (lv_at hl 4 rfl) ?_
                    refine lv_iconst (v := 1) hx hb dL_law_379 (by decide) ?_
                    refine lv_iadd hx hb dL_law_380 ?_
                    obtain ⟨hi_56, hf⟩ := oif hf
                    refine va_sld hx hb hX hbl hbA hS (inb_in hi_56) dL_law_381 ?_
                    refine lv_aload_n hx hb dL_law_382 rfl (lv_at hl 0 rfl) ?_
                    refine lv_iload hx hb dL_law_383 (lv_at hl 4 rfl) ?_
                    refine lv_iconst (v := 2) hx hb dL_law_385 (by decide) ?_
                    refine lv_iadd hx hb dL_law_386 ?_
                    obtain ⟨hi_57, hf⟩ := oif hf
                    refine va_sld hx hb hX hbl hbA hS (inb_in hi_57) dL_law_387 ?_
                    refine lv_aload_n hx hb dL_law_388 rfl (lv_at hl 0 rfl) ?_
                    refine lv_iload hx hb dL_law_389 (lv_at hl 4 rfl) ?_
                    refine lv_iconst (v := 3) hx hb dL_law_391 (by decide) ?_
                    refine lv_iadd hx hb dL_law_392 ?_
                    obtain ⟨hi_58, hf⟩ := oif hf
                    refine va_sld hx hb hX hbl hbA hS (inb_in hi_58) dL_law_393 ?_
                    refine lv_aload_n hx hb dL_law_394 rfl (lv_at hl 0 rfl) ?_
                    refine lv_iload hx hb dL_law_395 (lv_at hl 4 rfl) ?_
                    refine lv_iconst (v := 4) hx hb dL_law_397 (by decide) ?_
                    refine lv_iadd hx hb dL_law_398 ?_
                    obtain ⟨hi_59, hf⟩ := oif hf
                    refine va_sld hx hb hX hbl hbA hS (inb_in hi_59) dL_law_399 ?_
                    refine lv_aload_n hx hb dL_law_400 rfl (lv_at hl 0 rfl) ?_
                    refine lv_iload hx hb dL_law_401 (lv_at hl 4 rfl) ?_
                    refine lv_iconst (v := 5) hx hb dL_law_403 (by decide) ?_
                    refine lv_iadd hx hb dL_law_404 ?_
                    obtain ⟨hi_60, hf⟩ := oif hf
                    refine va_sld hx hb hX hbl hbA hS (inb_in hi_60) dL_law_405 ?_
                    refine lv_aload_n hx hb dL_law_406 rfl (lv_at hl 3 rfl) ?_
                    obtain ⟨r_61, hr_61, hf⟩ := obd hf
                    refine cHiS (As := [.ref (Q 0 0), .int (xs (x4 + (1 : Int32)).toNatClampNeg), .int (xs (x4 + (2 : Int32)).toNatClampNeg), .int (xs (x4 + (3 : Int32)).toNatClampNeg), .int (xs (x4 + (4 : Int32)).toNatClampNeg), .int (xs (x4 + (5 : Int32)).toNatClampNeg), .ref (qO 0)]) (rest := []) (W1 := (wDesk cA Q r_61.2.1 ++ (wMd cA qM zM ++ wOut cA qO r_61.2.2))) ⟨hx, hb, hml, hown, hts⟩ (m_L_add l htr G cA sa Q qO zD zO (xs (x4 + (1 : Int32)).toNatClampNeg) (xs (x4 + (2 : Int32)).toNatClampNeg) (xs (x4 + (3 : Int32)).toNatClampNeg) (xs (x4 + (4 : Int32)).toNatClampNeg) (xs (x4 + (5 : Int32)).toNatClampNeg) r_61 hr_61) (cw_L_add hts wi_530 ⟨Nat.le_of_ble_eq_true rfl, Nat.le_of_ble_eq_true rfl⟩) hK hP hD hS lawIs_DO lawBs_DO (lawC_DO cA Q qM qO _ _ _) (by decide) (lawB_DO cA Q qM qO _ _ _ _ _) (by decide) (lawAdr cA Q qM qO _ _ _ _ _ _) hxh rfl hl.1 rfl (Nat.le_of_ble_eq_true rfl) dL_law_407 ⟨by show _ ≤ 601024; omega, by show _ ≤ 7293034; omega⟩ (fun H locs hP hD hS => ?_)
                    refine lv_istore (lv' := [(5, .int r_61.1), (0, .ref (b)), (1, .ref (Q 0 0)), (2, .ref (qM 0)), (3, .ref (qO 0)), (4, .int x4)]) hx hb dL_law_410 hl (by decide) rfl (fun ls hl => ?_)
                    refine lv_aload_n hx hb dL_law_412 rfl (lv_at hl 3 rfl) ?_
                    refine lv_aload_n hx hb dL_law_413 rfl (lv_at hl 1 rfl) ?_
                    refine lv_iload hx hb dL_law_414 (lv_at hl 5 rfl) ?_
                    refine lv_iconst (v := 1) hx hb dL_law_416 (by decide) ?_
                    refine lv_iadd hx hb dL_law_417 ?_
                    obtain ⟨hi_62, hf⟩ := oif hf
                    refine va_sld hx hb hX hbl hbA hS (inb_in hi_62) dL_law_418 ?_
                    refine lv_aload_n hx hb dL_law_419 rfl (lv_at hl 1 rfl) ?_
                    refine lv_iload hx hb dL_law_420 (lv_at hl 5 rfl) ?_
                    refine lv_iconst (v := 2) hx hb dL_law_422 (by decide) ?_
                    refine lv_iadd hx hb dL_law_423 ?_
                    obtain ⟨hi_63, hf⟩ := oif hf
                    refine va_sld hx hb hX hbl hbA hS (inb_in hi_63) dL_law_424 ?_
                    refine lv_aload_n hx hb dL_law_425 rfl (lv_at hl 1 rfl) ?_
                    refine lv_iload hx hb dL_law_426 (lv_at hl 5 rfl) ?_
                    refine lv_iconst (v := 3) hx hb dL_law_428 (by decide) ?_
                    refine lv_iadd hx hb dL_law_429 ?_
                    obtain ⟨hi_64, hf⟩ := oif hf
                    refine va_sld hx hb hX hbl hbA hS (inb_in hi_64) dL_law_430 ?_
                    refine lv_aload_n hx hb dL_law_431 rfl (lv_at hl 1 rfl) ?_
                    refine lv_iload hx hb dL_law_432 (lv_at hl 5 rfl) ?_
                    refine lv_iconst (v := 4) hx hb dL_law_434 (by decide) ?_
                    refine lv_iadd hx hb dL_law_435 ?_
                    obtain ⟨hi_65, hf⟩ := oif hf
                    refine va_sld hx hb hX hbl hbA hS (inb_in hi_65) dL_law_436 ?_
                    refine lv_aload_n hx hb dL_law_437 rfl (lv_at hl 1 rfl) ?_
                    refine lv_iload hx hb dL_law_438 (lv_at hl 5 rfl) ?_
                    refine lv_iconst (v := 5) hx hb dL_law_440 (by decide) ?_
                    refine lv_iadd hx hb dL_law_441 ?_
                    obtain ⟨hi_66, hf⟩ := oif hf
                    refine va_sld hx hb hX hbl hbA hS (inb_in hi_66) dL_law_442 ?_
                    obtain ⟨r_67, hr_67, hf⟩ := obd hf
                    refine cWiV (As := [.int (xs (x4 + (1 : Int32)).toNatClampNeg), .int (xs (x4 + (2 : Int32)).toNatClampNeg), .int (xs (x4 + (3 : Int32)).toNatClampNeg), .int (xs (x4 + (4 : Int32)).toNatClampNeg), .int (xs (x4 + (5 : Int32)).toNatClampNeg)]) (rest := []) (W1 := (wDesk cA Q r_61.2.1 ++ (wMd cA qM r_67.2 ++ wOut cA qO r_61.2.2))) ⟨hx, hb, hml, hown, hts⟩ (m_X7_add l G cA qM zM (xs (x4 + (1 : Int32)).toNatClampNeg) (xs (x4 + (2 : Int32)).toNatClampNeg) (xs (x4 + (3 : Int32)).toNatClampNeg) (xs (x4 + (4 : Int32)).toNatClampNeg) (xs (x4 + (5 : Int32)).toNatClampNeg) r_67 hr_67) (cw_X7_add hts wi_843 ⟨Nat.le_of_ble_eq_true rfl, Nat.le_of_ble_eq_true rfl⟩) hK hP hD hS lawIs_M lawBs_M (lawC_M cA Q qM qO _ _ _) (by decide) (lawB_M cA Q qM qO _ _ _ _) (by decide) (lawAdr cA Q qM qO _ _ _ _ _ _) va_Pnil dj_nil (va_recv hK.1 hP (ci := 5) (q0 := 47) rfl rfl) rfl hl.1 rfl (Nat.le_of_ble_eq_true rfl) dL_law_443 ⟨by show _ ≤ 601024; omega, by show _ ≤ 7293034; omega⟩ (fun H locs hP hD hS => ?_)
                    refine lv_istore (lv' := [(6, .int r_67.1), (5, .int r_61.1), (0, .ref (b)), (1, .ref (Q 0 0)), (2, .ref (qM 0)), (3, .ref (qO 0)), (4, .int x4)]) hx hb dL_law_446 hl (by decide) rfl (fun ls hl => ?_)
                    refine lv_aload_n hx hb dL_law_448 rfl (lv_at hl 4 rfl) ?_
                    obtain ⟨r_68, hr_68, hf⟩ := obd hf
                    refine cRiV (As := []) (rest := []) ⟨hx, hb, hml, hown, hts⟩ (m_X7_thrown l G cA qM r_67.2  r_68 hr_68) (cw_X7_thrown hts wi_711 ⟨Nat.le_of_ble_eq_true rfl, Nat.le_of_ble_eq_true rfl⟩) hK (pk hP [47, 48, 49, 50, 51] (lawC_M cA Q qM qO _ _ _)) (va_recv hK.1 hP (ci := 5) (q0 := 47) rfl rfl) rfl hl.1 rfl (Nat.le_of_ble_eq_true rfl) dL_law_449 ⟨by show _ ≤ 601024; omega, by show _ ≤ 7293034; omega⟩ ?_
                    refine lv_iload hx hb dL_law_452 (lv_at hl 1 rfl) ?_
                    refine lv_icmp_eq (tgt := 459) hx hb dL_law_454 (by decide) (fun c_69 => ?_) (fun c_69 => ?_)
                    · rw [if_pos (c_69)] at hf
                      refine lv_iload hx hb dL_law_459 (lv_at hl 1 rfl) ?_
                      refine lv_if_ne (tgt := 476) hx hb dL_law_461 (by decide) (fun c_70 => ?_) (fun c_70 => ?_)
                      · rw [if_pos (c_70)] at hf
                        exact b_L_law_476 Q qM qO htr C0 hK hxh fu (fun zD_ zM_ zO_ x4_ => f_L_law_23 xs L fu zD_ zM_ zO_ x4_) ih r_61.2.1 r_67.2 r_61.2.2 x4 H locs ls _ _ (by omega) (by omega) hP hD hS (lv_sub hl [2, 3, 4, 5, 6] rfl) hf
                      · rw [if_neg (not_not_intro c_70)] at hf
                        refine lv_aload_n hx hb dL_law_464 rfl (lv_at hl 5 rfl) ?_
                        refine lv_iconst (v := 0) hx hb dL_law_465 (by decide) ?_
                        obtain ⟨hi_71, hf⟩ := oif hf
                        refine va_lald hx hb hK.1 hP 52 1 rfl rfl (inb_in hi_71) dL_law_466 ?_
                        refine lv_iload hx hb dL_law_467 (lv_at hl 0 rfl) ?_
                        refine lv_i2l (v := r_67.1.toInt64) hx hb dL_law_469 rfl ?_
                        refine W.lcmp hx hb dL_law_470 ?_
                        refine lv_if_eq (tgt := 476) hx hb dL_law_471 (by decide) (fun c_72 => ?_) (fun c_72 => ?_)
                        · rw [if_pos ((lg_cmp_eq _ _).mp c_72)] at hf
                          exact b_L_law_476 Q qM qO htr C0 hK hxh fu (fun zD_ zM_ zO_ x4_ => f_L_law_23 xs L fu zD_ zM_ zO_ x4_) ih r_61.2.1 r_67.2 r_61.2.2 x4 H locs ls _ _ (by omega) (by omega) hP hD hS (lv_sub hl [2, 3, 4, 5, 6] rfl) hf
                        · rw [if_neg (fun h => c_72 ((lg_cmp_eq _ _).mpr h))] at hf
                          refine lv_iconst (v := 0) hx hb dL_law_474 (by decide) ?_
                          exact absurd (Option.some.inj hf) (by decide)
                    · rw [if_neg (c_69)] at hf
                      refine lv_iconst (v := 0) hx hb dL_law_457 (by decide) ?_
                      exact absurd (Option.some.inj hf) (by decide)
                  · rw [if_neg c_55] at hf
                    by_cases c_73 : ((xs x4.toNatClampNeg) &&& (15 : Int32)) = 7
                    · rw [if_pos c_73] at hf
                      rw [c_73]
                      refine lv_tableIn (tgt := 479) (off := 439) hx hb dL_law_40 (by decide) (by decide) (by decide) (by decide) ?_
                      refine lv_aload_n hx hb dL_law_479 rfl (lv_at hl 1 rfl) ?_
                      refine lv_aload_n hx hb dL_law_480 rfl (lv_at hl 0 rfl) ?_
                      refine lv_iload hx hb dL_law_481 (lv_at hl 4 rfl) ?_
                      refine lv_iconst (v := 1) hx hb dL_law_483 (by decide) ?_
                      refine lv_iadd hx hb dL_law_484 ?_
                      obtain ⟨hi_74, hf⟩ := oif hf
                      refine va_sld hx hb hX hbl hbA hS (inb_in hi_74) dL_law_485 ?_
                      refine lv_aload_n hx hb dL_law_486 rfl (lv_at hl 0 rfl) ?_
                      refine lv_iload hx hb dL_law_487 (lv_at hl 4 rfl) ?_
                      refine lv_iconst (v := 2) hx hb dL_law_489 (by decide) ?_
                      refine lv_iadd hx hb dL_law_490 ?_
                      obtain ⟨hi_75, hf⟩ := oif hf
                      refine va_sld hx hb hX hbl hbA hS (inb_in hi_75) dL_law_491 ?_
                      refine lv_aload_n hx hb dL_law_492 rfl (lv_at hl 0 rfl) ?_
                      refine lv_iload hx hb dL_law_493 (lv_at hl 4 rfl) ?_
                      refine lv_iconst (v := 3) hx hb dL_law_495 (by decide) ?_
                      refine lv_iadd hx hb dL_law_496 ?_
                      obtain ⟨hi_76, hf⟩ := oif hf
                      refine va_sld hx hb hX hbl hbA hS (inb_in hi_76) dL_law_497 ?_
                      refine lv_aload_n hx hb dL_law_498 rfl (lv_at hl 3 rfl) ?_
                      obtain ⟨r_77, hr_77, hf⟩ := obd hf
                      refine cHiS (As := [.ref (Q 0 0), .int (xs (x4 + (1 : Int32)).toNatClampNeg), .int (xs (x4 + (2 : Int32)).toNatClampNeg), .int (xs (x4 + (3 : Int32)).toNatClampNeg), .ref (qO 0)]) (rest := []) (W1 := (wDesk cA Q r_77.2.1 ++ (wMd cA qM zM ++ wOut cA qO r_77.2.2))) ⟨hx, hb, hml, hown, hts⟩ (m_L_times l htr G cA sa Q qO zD zO (xs (x4 + (1 : Int32)).toNatClampNeg) (xs (x4 + (2 : Int32)).toNatClampNeg) (xs (x4 + (3 : Int32)).toNatClampNeg) r_77 hr_77) (cw_L_times hts wi_550 ⟨Nat.le_of_ble_eq_true rfl, Nat.le_of_ble_eq_true rfl⟩) hK hP hD hS lawIs_DO lawBs_DO (lawC_DO cA Q qM qO _ _ _) (by decide) (lawB_DO cA Q qM qO _ _ _ _ _) (by decide) (lawAdr cA Q qM qO _ _ _ _ _ _) hxh rfl hl.1 rfl (Nat.le_of_ble_eq_true rfl) dL_law_499 ⟨by show _ ≤ 601024; omega, by show _ ≤ 7293034; omega⟩ (fun H locs hP hD hS => ?_)
                      refine lv_istore (lv' := [(5, .int r_77.1), (0, .ref (b)), (1, .ref (Q 0 0)), (2, .ref (qM 0)), (3, .ref (qO 0)), (4, .int x4)]) hx hb dL_law_502 hl (by decide) rfl (fun ls hl => ?_)
                      refine lv_aload_n hx hb dL_law_504 rfl (lv_at hl 3 rfl) ?_
                      refine lv_aload_n hx hb dL_law_505 rfl (lv_at hl 1 rfl) ?_
                      refine lv_iload hx hb dL_law_506 (lv_at hl 5 rfl) ?_
                      refine lv_iconst (v := 1) hx hb dL_law_508 (by decide) ?_
                      refine lv_iadd hx hb dL_law_509 ?_
                      obtain ⟨hi_78, hf⟩ := oif hf
                      refine va_sld hx hb hX hbl hbA hS (inb_in hi_78) dL_law_510 ?_
                      refine lv_aload_n hx hb dL_law_511 rfl (lv_at hl 1 rfl) ?_
                      refine lv_iload hx hb dL_law_512 (lv_at hl 5 rfl) ?_
                      refine lv_iconst (v := 2) hx hb dL_law_514 (by decide) ?_
                      refine lv_iadd hx hb dL_law_515 ?_
                      obtain ⟨hi_79, hf⟩ := oif hf
                      refine va_sld hx hb hX hbl hbA hS (inb_in hi_79) dL_law_516 ?_
                      refine lv_aload_n hx hb dL_law_517 rfl (lv_at hl 1 rfl) ?_
                      refine lv_iload hx hb dL_law_518 (lv_at hl 5 rfl) ?_
                      refine lv_iconst (v := 3) hx hb dL_law_520 (by decide) ?_
                      refine lv_iadd hx hb dL_law_521 ?_
                      obtain ⟨hi_80, hf⟩ := oif hf
                      refine va_sld hx hb hX hbl hbA hS (inb_in hi_80) dL_law_522 ?_
                      obtain ⟨r_81, hr_81, hf⟩ := obd hf
                      refine cWiV (As := [.int (xs (x4 + (1 : Int32)).toNatClampNeg), .int (xs (x4 + (2 : Int32)).toNatClampNeg), .int (xs (x4 + (3 : Int32)).toNatClampNeg)]) (rest := []) (W1 := (wDesk cA Q r_77.2.1 ++ (wMd cA qM r_81.2 ++ wOut cA qO r_77.2.2))) ⟨hx, hb, hml, hown, hts⟩ (m_X7_times l G cA qM zM (xs (x4 + (1 : Int32)).toNatClampNeg) (xs (x4 + (2 : Int32)).toNatClampNeg) (xs (x4 + (3 : Int32)).toNatClampNeg) r_81 hr_81) (cw_X7_times hts wi_854 ⟨Nat.le_of_ble_eq_true rfl, Nat.le_of_ble_eq_true rfl⟩) hK hP hD hS lawIs_M lawBs_M (lawC_M cA Q qM qO _ _ _) (by decide) (lawB_M cA Q qM qO _ _ _ _) (by decide) (lawAdr cA Q qM qO _ _ _ _ _ _) va_Pnil dj_nil (va_recv hK.1 hP (ci := 5) (q0 := 47) rfl rfl) rfl hl.1 rfl (Nat.le_of_ble_eq_true rfl) dL_law_523 ⟨by show _ ≤ 601024; omega, by show _ ≤ 7293034; omega⟩ (fun H locs hP hD hS => ?_)
                      refine lv_istore (lv' := [(6, .int r_81.1), (5, .int r_77.1), (0, .ref (b)), (1, .ref (Q 0 0)), (2, .ref (qM 0)), (3, .ref (qO 0)), (4, .int x4)]) hx hb dL_law_526 hl (by decide) rfl (fun ls hl => ?_)
                      refine lv_aload_n hx hb dL_law_528 rfl (lv_at hl 4 rfl) ?_
                      obtain ⟨r_82, hr_82, hf⟩ := obd hf
                      refine cRiV (As := []) (rest := []) ⟨hx, hb, hml, hown, hts⟩ (m_X7_thrown l G cA qM r_81.2  r_82 hr_82) (cw_X7_thrown hts wi_711 ⟨Nat.le_of_ble_eq_true rfl, Nat.le_of_ble_eq_true rfl⟩) hK (pk hP [47, 48, 49, 50, 51] (lawC_M cA Q qM qO _ _ _)) (va_recv hK.1 hP (ci := 5) (q0 := 47) rfl rfl) rfl hl.1 rfl (Nat.le_of_ble_eq_true rfl) dL_law_529 ⟨by show _ ≤ 601024; omega, by show _ ≤ 7293034; omega⟩ ?_
                      refine lv_iload hx hb dL_law_532 (lv_at hl 1 rfl) ?_
                      refine lv_icmp_eq (tgt := 539) hx hb dL_law_534 (by decide) (fun c_83 => ?_) (fun c_83 => ?_)
                      · rw [if_pos (c_83)] at hf
                        refine lv_iload hx hb dL_law_539 (lv_at hl 1 rfl) ?_
                        refine lv_if_ne (tgt := 556) hx hb dL_law_541 (by decide) (fun c_84 => ?_) (fun c_84 => ?_)
                        · rw [if_pos (c_84)] at hf
                          exact b_L_law_556 Q qM qO htr C0 hK hxh fu (fun zD_ zM_ zO_ x4_ => f_L_law_23 xs L fu zD_ zM_ zO_ x4_) ih r_77.2.1 r_81.2 r_77.2.2 x4 H locs ls _ _ (by omega) (by omega) hP hD hS (lv_sub hl [2, 3, 4, 5, 6] rfl) hf
                        · rw [if_neg (not_not_intro c_84)] at hf
                          refine lv_aload_n hx hb dL_law_544 rfl (lv_at hl 5 rfl) ?_
                          refine lv_iconst (v := 0) hx hb dL_law_545 (by decide) ?_
                          obtain ⟨hi_85, hf⟩ := oif hf
                          refine va_lald hx hb hK.1 hP 52 1 rfl rfl (inb_in hi_85) dL_law_546 ?_
                          refine lv_iload hx hb dL_law_547 (lv_at hl 0 rfl) ?_
                          refine lv_i2l (v := r_81.1.toInt64) hx hb dL_law_549 rfl ?_
                          refine W.lcmp hx hb dL_law_550 ?_
                          refine lv_if_eq (tgt := 556) hx hb dL_law_551 (by decide) (fun c_86 => ?_) (fun c_86 => ?_)
                          · rw [if_pos ((lg_cmp_eq _ _).mp c_86)] at hf
                            exact b_L_law_556 Q qM qO htr C0 hK hxh fu (fun zD_ zM_ zO_ x4_ => f_L_law_23 xs L fu zD_ zM_ zO_ x4_) ih r_77.2.1 r_81.2 r_77.2.2 x4 H locs ls _ _ (by omega) (by omega) hP hD hS (lv_sub hl [2, 3, 4, 5, 6] rfl) hf
                          · rw [if_neg (fun h => c_86 ((lg_cmp_eq _ _).mpr h))] at hf
                            refine lv_iconst (v := 0) hx hb dL_law_554 (by decide) ?_
                            exact absurd (Option.some.inj hf) (by decide)
                      · rw [if_neg (c_83)] at hf
                        refine lv_iconst (v := 0) hx hb dL_law_537 (by decide) ?_
                        exact absurd (Option.some.inj hf) (by decide)
                    · rw [if_neg c_73] at hf
                      by_cases c_87 : ((xs x4.toNatClampNeg) &&& (15 : Int32)) = 8
                      · rw [if_pos c_87] at hf
                        rw [c_87]
                        refine lv_tableIn (tgt := 559) (off := 519) hx hb dL_law_40 (by decide) (by decide) (by decide) (by decide) ?_
                        refine lv_aload_n hx hb dL_law_559 rfl (lv_at hl 1 rfl) ?_
                        refine lv_aload_n hx hb dL_law_560 rfl (lv_at hl 0 rfl) ?_
                        refine lv_iload hx hb dL_law_561 (lv_at hl 4 rfl) ?_
                        refine lv_iconst (v := 1) hx hb dL_law_563 (by decide) ?_
                        refine lv_iadd hx hb dL_law_564 ?_
                        obtain ⟨hi_88, hf⟩ := oif hf
                        refine va_sld hx hb hX hbl hbA hS (inb_in hi_88) dL_law_565 ?_
                        refine lv_aload_n hx hb dL_law_566 rfl (lv_at hl 0 rfl) ?_
                        refine lv_iload hx hb dL_law_567 (lv_at hl 4 rfl) ?_
                        refine lv_iconst (v := 2) hx hb dL_law_569 (by decide) ?_
                        refine lv_iadd hx hb dL_law_570 ?_
                        obtain ⟨hi_89, hf⟩ := oif hf
                        refine va_sld hx hb hX hbl hbA hS (inb_in hi_89) dL_law_571 ?_
                        refine lv_aload_n hx hb dL_law_572 rfl (lv_at hl 3 rfl) ?_
                        obtain ⟨r_90, hr_90, hf⟩ := obd hf
                        refine cHiS (As := [.ref (Q 0 0), .int (xs (x4 + (1 : Int32)).toNatClampNeg), .int (xs (x4 + (2 : Int32)).toNatClampNeg), .ref (qO 0)]) (rest := []) (W1 := (wDesk cA Q r_90.2.1 ++ (wMd cA qM zM ++ wOut cA qO r_90.2.2))) ⟨hx, hb, hml, hown, hts⟩ (m_L_derive l htr G cA sa Q qO zD zO (xs (x4 + (1 : Int32)).toNatClampNeg) (xs (x4 + (2 : Int32)).toNatClampNeg) r_90 hr_90) (cw_L_derive hts wi_587 ⟨Nat.le_of_ble_eq_true rfl, Nat.le_of_ble_eq_true rfl⟩) hK hP hD hS lawIs_DO lawBs_DO (lawC_DO cA Q qM qO _ _ _) (by decide) (lawB_DO cA Q qM qO _ _ _ _ _) (by decide) (lawAdr cA Q qM qO _ _ _ _ _ _) hxh rfl hl.1 rfl (Nat.le_of_ble_eq_true rfl) dL_law_573 ⟨by show _ ≤ 601024; omega, by show _ ≤ 7293034; omega⟩ (fun H locs hP hD hS => ?_)
                        refine lv_istore (lv' := [(5, .int r_90.1), (0, .ref (b)), (1, .ref (Q 0 0)), (2, .ref (qM 0)), (3, .ref (qO 0)), (4, .int x4)]) hx hb dL_law_576 hl (by decide) rfl (fun ls hl => ?_)
                        refine lv_aload_n hx hb dL_law_578 rfl (lv_at hl 3 rfl) ?_
                        refine lv_aload_n hx hb dL_law_579 rfl (lv_at hl 1 rfl) ?_
                        refine lv_iload hx hb dL_law_580 (lv_at hl 5 rfl) ?_
                        refine lv_iconst (v := 1) hx hb dL_law_582 (by decide) ?_
                        refine lv_iadd hx hb dL_law_583 ?_
                        obtain ⟨hi_91, hf⟩ := oif hf
                        refine va_sld hx hb hX hbl hbA hS (inb_in hi_91) dL_law_584 ?_
                        refine lv_aload_n hx hb dL_law_585 rfl (lv_at hl 1 rfl) ?_
                        refine lv_iload hx hb dL_law_586 (lv_at hl 5 rfl) ?_
                        refine lv_iconst (v := 2) hx hb dL_law_588 (by decide) ?_
                        refine lv_iadd hx hb dL_law_589 ?_
                        obtain ⟨hi_92, hf⟩ := oif hf
                        refine va_sld hx hb hX hbl hbA hS (inb_in hi_92) dL_law_590 ?_
                        obtain ⟨r_93, hr_93, hf⟩ := obd hf
                        refine cWiV (As := [.int (xs (x4 + (1 : Int32)).toNatClampNeg), .int (xs (x4 + (2 : Int32)).toNatClampNeg)]) (rest := []) (W1 := (wDesk cA Q r_90.2.1 ++ (wMd cA qM r_93.2 ++ wOut cA qO r_90.2.2))) ⟨hx, hb, hml, hown, hts⟩ (m_X7_derive l G cA qM zM (xs (x4 + (1 : Int32)).toNatClampNeg) (xs (x4 + (2 : Int32)).toNatClampNeg) r_93 hr_93) (cw_X7_derive hts wi_866 ⟨Nat.le_of_ble_eq_true rfl, Nat.le_of_ble_eq_true rfl⟩) hK hP hD hS lawIs_M lawBs_M (lawC_M cA Q qM qO _ _ _) (by decide) (lawB_M cA Q qM qO _ _ _ _) (by decide) (lawAdr cA Q qM qO _ _ _ _ _ _) va_Pnil dj_nil (va_recv hK.1 hP (ci := 5) (q0 := 47) rfl rfl) rfl hl.1 rfl (Nat.le_of_ble_eq_true rfl) dL_law_591 ⟨by show _ ≤ 601024; omega, by show _ ≤ 7293034; omega⟩ (fun H locs hP hD hS => ?_)
                        refine lv_istore (lv' := [(6, .int r_93.1), (5, .int r_90.1), (0, .ref (b)), (1, .ref (Q 0 0)), (2, .ref (qM 0)), (3, .ref (qO 0)), (4, .int x4)]) hx hb dL_law_594 hl (by decide) rfl (fun ls hl => ?_)
                        refine lv_aload_n hx hb dL_law_596 rfl (lv_at hl 4 rfl) ?_
                        obtain ⟨r_94, hr_94, hf⟩ := obd hf
                        refine cRiV (As := []) (rest := []) ⟨hx, hb, hml, hown, hts⟩ (m_X7_thrown l G cA qM r_93.2  r_94 hr_94) (cw_X7_thrown hts wi_711 ⟨Nat.le_of_ble_eq_true rfl, Nat.le_of_ble_eq_true rfl⟩) hK (pk hP [47, 48, 49, 50, 51] (lawC_M cA Q qM qO _ _ _)) (va_recv hK.1 hP (ci := 5) (q0 := 47) rfl rfl) rfl hl.1 rfl (Nat.le_of_ble_eq_true rfl) dL_law_597 ⟨by show _ ≤ 601024; omega, by show _ ≤ 7293034; omega⟩ ?_
                        refine lv_iload hx hb dL_law_600 (lv_at hl 1 rfl) ?_
                        refine lv_icmp_eq (tgt := 607) hx hb dL_law_602 (by decide) (fun c_95 => ?_) (fun c_95 => ?_)
                        · rw [if_pos (c_95)] at hf
                          refine lv_iload hx hb dL_law_607 (lv_at hl 1 rfl) ?_
                          refine lv_if_ne (tgt := 624) hx hb dL_law_609 (by decide) (fun c_96 => ?_) (fun c_96 => ?_)
                          · rw [if_pos (c_96)] at hf
                            exact b_L_law_624 Q qM qO htr C0 hK hxh fu (fun zD_ zM_ zO_ x4_ => f_L_law_23 xs L fu zD_ zM_ zO_ x4_) ih r_90.2.1 r_93.2 r_90.2.2 x4 H locs ls _ _ (by omega) (by omega) hP hD hS (lv_sub hl [2, 3, 4, 5, 6] rfl) hf
                          · rw [if_neg (not_not_intro c_96)] at hf
                            refine lv_aload_n hx hb dL_law_612 rfl (lv_at hl 5 rfl) ?_
                            refine lv_iconst (v := 0) hx hb dL_law_613 (by decide) ?_
                            obtain ⟨hi_97, hf⟩ := oif hf
                            refine va_lald hx hb hK.1 hP 52 1 rfl rfl (inb_in hi_97) dL_law_614 ?_
                            refine lv_iload hx hb dL_law_615 (lv_at hl 0 rfl) ?_
                            refine lv_i2l (v := r_93.1.toInt64) hx hb dL_law_617 rfl ?_
                            refine W.lcmp hx hb dL_law_618 ?_
                            refine lv_if_eq (tgt := 624) hx hb dL_law_619 (by decide) (fun c_98 => ?_) (fun c_98 => ?_)
                            · rw [if_pos ((lg_cmp_eq _ _).mp c_98)] at hf
                              exact b_L_law_624 Q qM qO htr C0 hK hxh fu (fun zD_ zM_ zO_ x4_ => f_L_law_23 xs L fu zD_ zM_ zO_ x4_) ih r_90.2.1 r_93.2 r_90.2.2 x4 H locs ls _ _ (by omega) (by omega) hP hD hS (lv_sub hl [2, 3, 4, 5, 6] rfl) hf
                            · rw [if_neg (fun h => c_98 ((lg_cmp_eq _ _).mpr h))] at hf
                              refine lv_iconst (v := 0) hx hb dL_law_622 (by decide) ?_
                              exact absurd (Option.some.inj hf) (by decide)
                        · rw [if_neg (c_95)] at hf
                          refine lv_iconst (v := 0) hx hb dL_law_605 (by decide) ?_
                          exact absurd (Option.some.inj hf) (by decide)
                      · rw [if_neg c_87] at hf
                        by_cases c_99 : ((xs x4.toNatClampNeg) &&& (15 : Int32)) = 9
                        · rw [if_pos c_99] at hf
                          rw [c_99]
                          refine lv_tableIn (tgt := 627) (off := 587) hx hb dL_law_40 (by decide) (by decide) (by decide) (by decide) ?_
                          refine lv_aload_n hx hb dL_law_627 rfl (lv_at hl 1 rfl) ?_
                          refine lv_aload_n hx hb dL_law_628 rfl (lv_at hl 0 rfl) ?_
                          refine lv_iload hx hb dL_law_629 (lv_at hl 4 rfl) ?_
                          refine lv_iconst (v := 1) hx hb dL_law_631 (by decide) ?_
                          refine lv_iadd hx hb dL_law_632 ?_
                          obtain ⟨hi_100, hf⟩ := oif hf
                          refine va_sld hx hb hX hbl hbA hS (inb_in hi_100) dL_law_633 ?_
                          refine lv_aload_n hx hb dL_law_634 rfl (lv_at hl 0 rfl) ?_
                          refine lv_iload hx hb dL_law_635 (lv_at hl 4 rfl) ?_
                          refine lv_iconst (v := 2) hx hb dL_law_637 (by decide) ?_
                          refine lv_iadd hx hb dL_law_638 ?_
                          obtain ⟨hi_101, hf⟩ := oif hf
                          refine va_sld hx hb hX hbl hbA hS (inb_in hi_101) dL_law_639 ?_
                          refine lv_aload_n hx hb dL_law_640 rfl (lv_at hl 0 rfl) ?_
                          refine lv_iload hx hb dL_law_641 (lv_at hl 4 rfl) ?_
                          refine lv_iconst (v := 3) hx hb dL_law_643 (by decide) ?_
                          refine lv_iadd hx hb dL_law_644 ?_
                          obtain ⟨hi_102, hf⟩ := oif hf
                          refine va_sld hx hb hX hbl hbA hS (inb_in hi_102) dL_law_645 ?_
                          refine lv_aload_n hx hb dL_law_646 rfl (lv_at hl 3 rfl) ?_
                          obtain ⟨r_103, hr_103, hf⟩ := obd hf
                          refine cHiS (As := [.ref (Q 0 0), .int (xs (x4 + (1 : Int32)).toNatClampNeg), .int (xs (x4 + (2 : Int32)).toNatClampNeg), .int (xs (x4 + (3 : Int32)).toNatClampNeg), .ref (qO 0)]) (rest := []) (W1 := (wDesk cA Q r_103.2.1 ++ (wMd cA qM zM ++ wOut cA qO r_103.2.2))) ⟨hx, hb, hml, hown, hts⟩ (m_L_integrate l htr G cA sa Q qO zD zO (xs (x4 + (1 : Int32)).toNatClampNeg) (xs (x4 + (2 : Int32)).toNatClampNeg) (xs (x4 + (3 : Int32)).toNatClampNeg) r_103 hr_103) (cw_L_integrate hts wi_610 ⟨Nat.le_of_ble_eq_true rfl, Nat.le_of_ble_eq_true rfl⟩) hK hP hD hS lawIs_DO lawBs_DO (lawC_DO cA Q qM qO _ _ _) (by decide) (lawB_DO cA Q qM qO _ _ _ _ _) (by decide) (lawAdr cA Q qM qO _ _ _ _ _ _) hxh rfl hl.1 rfl (Nat.le_of_ble_eq_true rfl) dL_law_647 ⟨by show _ ≤ 601024; omega, by show _ ≤ 7293034; omega⟩ (fun H locs hP hD hS => ?_)
                          refine lv_istore (lv' := [(5, .int r_103.1), (0, .ref (b)), (1, .ref (Q 0 0)), (2, .ref (qM 0)), (3, .ref (qO 0)), (4, .int x4)]) hx hb dL_law_650 hl (by decide) rfl (fun ls hl => ?_)
                          refine lv_aload_n hx hb dL_law_652 rfl (lv_at hl 3 rfl) ?_
                          refine lv_aload_n hx hb dL_law_653 rfl (lv_at hl 1 rfl) ?_
                          refine lv_iload hx hb dL_law_654 (lv_at hl 5 rfl) ?_
                          refine lv_iconst (v := 1) hx hb dL_law_656 (by decide) ?_
                          refine lv_iadd hx hb dL_law_657 ?_
                          obtain ⟨hi_104, hf⟩ := oif hf
                          refine va_sld hx hb hX hbl hbA hS (inb_in hi_104) dL_law_658 ?_
                          refine lv_aload_n hx hb dL_law_659 rfl (lv_at hl 1 rfl) ?_
                          refine lv_iload hx hb dL_law_660 (lv_at hl 5 rfl) ?_
                          refine lv_iconst (v := 2) hx hb dL_law_662 (by decide) ?_
                          refine lv_iadd hx hb dL_law_663 ?_
                          obtain ⟨hi_105, hf⟩ := oif hf
                          refine va_sld hx hb hX hbl hbA hS (inb_in hi_105) dL_law_664 ?_
                          refine lv_aload_n hx hb dL_law_665 rfl (lv_at hl 1 rfl) ?_
                          refine lv_iload hx hb dL_law_666 (lv_at hl 5 rfl) ?_
                          refine lv_iconst (v := 3) hx hb dL_law_668 (by decide) ?_
                          refine lv_iadd hx hb dL_law_669 ?_
                          obtain ⟨hi_106, hf⟩ := oif hf
                          refine va_sld hx hb hX hbl hbA hS (inb_in hi_106) dL_law_670 ?_
                          obtain ⟨r_107, hr_107, hf⟩ := obd hf
                          refine cWiV (As := [.int (xs (x4 + (1 : Int32)).toNatClampNeg), .int (xs (x4 + (2 : Int32)).toNatClampNeg), .int (xs (x4 + (3 : Int32)).toNatClampNeg)]) (rest := []) (W1 := (wDesk cA Q r_103.2.1 ++ (wMd cA qM r_107.2 ++ wOut cA qO r_103.2.2))) ⟨hx, hb, hml, hown, hts⟩ (m_X7_integrate l G cA qM zM (xs (x4 + (1 : Int32)).toNatClampNeg) (xs (x4 + (2 : Int32)).toNatClampNeg) (xs (x4 + (3 : Int32)).toNatClampNeg) r_107 hr_107) (cw_X7_integrate hts wi_870 ⟨Nat.le_of_ble_eq_true rfl, Nat.le_of_ble_eq_true rfl⟩) hK hP hD hS lawIs_M lawBs_M (lawC_M cA Q qM qO _ _ _) (by decide) (lawB_M cA Q qM qO _ _ _ _) (by decide) (lawAdr cA Q qM qO _ _ _ _ _ _) va_Pnil dj_nil (va_recv hK.1 hP (ci := 5) (q0 := 47) rfl rfl) rfl hl.1 rfl (Nat.le_of_ble_eq_true rfl) dL_law_671 ⟨by show _ ≤ 601024; omega, by show _ ≤ 7293034; omega⟩ (fun H locs hP hD hS => ?_)
                          refine lv_istore (lv' := [(6, .int r_107.1), (5, .int r_103.1), (0, .ref (b)), (1, .ref (Q 0 0)), (2, .ref (qM 0)), (3, .ref (qO 0)), (4, .int x4)]) hx hb dL_law_674 hl (by decide) rfl (fun ls hl => ?_)
                          refine lv_aload_n hx hb dL_law_676 rfl (lv_at hl 4 rfl) ?_
                          obtain ⟨r_108, hr_108, hf⟩ := obd hf
                          refine cRiV (As := []) (rest := []) ⟨hx, hb, hml, hown, hts⟩ (m_X7_thrown l G cA qM r_107.2  r_108 hr_108) (cw_X7_thrown hts wi_711 ⟨Nat.le_of_ble_eq_true rfl, Nat.le_of_ble_eq_true rfl⟩) hK (pk hP [47, 48, 49, 50, 51] (lawC_M cA Q qM qO _ _ _)) (va_recv hK.1 hP (ci := 5) (q0 := 47) rfl rfl) rfl hl.1 rfl (Nat.le_of_ble_eq_true rfl) dL_law_677 ⟨by show _ ≤ 601024; omega, by show _ ≤ 7293034; omega⟩ ?_
                          refine lv_iload hx hb dL_law_680 (lv_at hl 1 rfl) ?_
                          refine lv_icmp_eq (tgt := 687) hx hb dL_law_682 (by decide) (fun c_109 => ?_) (fun c_109 => ?_)
                          · rw [if_pos (c_109)] at hf
                            refine lv_iload hx hb dL_law_687 (lv_at hl 1 rfl) ?_
                            refine lv_if_ne (tgt := 704) hx hb dL_law_689 (by decide) (fun c_110 => ?_) (fun c_110 => ?_)
                            · rw [if_pos (c_110)] at hf
                              exact b_L_law_704 Q qM qO htr C0 hK hxh fu (fun zD_ zM_ zO_ x4_ => f_L_law_23 xs L fu zD_ zM_ zO_ x4_) ih r_103.2.1 r_107.2 r_103.2.2 x4 H locs ls _ _ (by omega) (by omega) hP hD hS (lv_sub hl [2, 3, 4, 5, 6] rfl) hf
                            · rw [if_neg (not_not_intro c_110)] at hf
                              refine lv_aload_n hx hb dL_law_692 rfl (lv_at hl 5 rfl) ?_
                              refine lv_iconst (v := 0) hx hb dL_law_693 (by decide) ?_
                              obtain ⟨hi_111, hf⟩ := oif hf
                              refine va_lald hx hb hK.1 hP 52 1 rfl rfl (inb_in hi_111) dL_law_694 ?_
                              refine lv_iload hx hb dL_law_695 (lv_at hl 0 rfl) ?_
                              refine lv_i2l (v := r_107.1.toInt64) hx hb dL_law_697 rfl ?_
                              refine W.lcmp hx hb dL_law_698 ?_
                              refine lv_if_eq (tgt := 704) hx hb dL_law_699 (by decide) (fun c_112 => ?_) (fun c_112 => ?_)
                              · rw [if_pos ((lg_cmp_eq _ _).mp c_112)] at hf
                                exact b_L_law_704 Q qM qO htr C0 hK hxh fu (fun zD_ zM_ zO_ x4_ => f_L_law_23 xs L fu zD_ zM_ zO_ x4_) ih r_103.2.1 r_107.2 r_103.2.2 x4 H locs ls _ _ (by omega) (by omega) hP hD hS (lv_sub hl [2, 3, 4, 5, 6] rfl) hf
                              · rw [if_neg (fun h => c_112 ((lg_cmp_eq _ _).mpr h))] at hf
                                refine lv_iconst (v := 0) hx hb dL_law_702 (by decide) ?_
                                exact absurd (Option.some.inj hf) (by decide)
                          · rw [if_neg (c_109)] at hf
                            refine lv_iconst (v := 0) hx hb dL_law_685 (by decide) ?_
                            exact absurd (Option.some.inj hf) (by decide)
                        · rw [if_neg c_99] at hf
                          by_cases c_113 : ((xs x4.toNatClampNeg) &&& (15 : Int32)) = 10
                          · rw [if_pos c_113] at hf
                            rw [c_113]
                            refine lv_tableIn (tgt := 707) (off := 667) hx hb dL_law_40 (by decide) (by decide) (by decide) (by decide) ?_
                            refine lv_aload_n hx hb dL_law_707 rfl (lv_at hl 1 rfl) ?_
                            refine lv_aload_n hx hb dL_law_708 rfl (lv_at hl 0 rfl) ?_
                            refine lv_iload hx hb dL_law_709 (lv_at hl 4 rfl) ?_
                            refine lv_iconst (v := 1) hx hb dL_law_711 (by decide) ?_
                            refine lv_iadd hx hb dL_law_712 ?_
                            obtain ⟨hi_114, hf⟩ := oif hf
                            refine va_sld hx hb hX hbl hbA hS (inb_in hi_114) dL_law_713 ?_
                            refine lv_aload_n hx hb dL_law_714 rfl (lv_at hl 0 rfl) ?_
                            refine lv_iload hx hb dL_law_715 (lv_at hl 4 rfl) ?_
                            refine lv_iconst (v := 2) hx hb dL_law_717 (by decide) ?_
                            refine lv_iadd hx hb dL_law_718 ?_
                            obtain ⟨hi_115, hf⟩ := oif hf
                            refine va_sld hx hb hX hbl hbA hS (inb_in hi_115) dL_law_719 ?_
                            refine lv_aload_n hx hb dL_law_720 rfl (lv_at hl 3 rfl) ?_
                            obtain ⟨r_116, hr_116, hf⟩ := obd hf
                            refine cHiS (As := [.ref (Q 0 0), .int (xs (x4 + (1 : Int32)).toNatClampNeg), .int (xs (x4 + (2 : Int32)).toNatClampNeg), .ref (qO 0)]) (rest := []) (W1 := (wDesk cA Q r_116.2.1 ++ (wMd cA qM zM ++ wOut cA qO r_116.2.2))) ⟨hx, hb, hml, hown, hts⟩ (m_L_same l htr G cA sa Q qO zD zO (xs (x4 + (1 : Int32)).toNatClampNeg) (xs (x4 + (2 : Int32)).toNatClampNeg) r_116 hr_116) (cw_L_same hts wi_633 ⟨Nat.le_of_ble_eq_true rfl, Nat.le_of_ble_eq_true rfl⟩) hK hP hD hS lawIs_DO lawBs_DO (lawC_DO cA Q qM qO _ _ _) (by decide) (lawB_DO cA Q qM qO _ _ _ _ _) (by decide) (lawAdr cA Q qM qO _ _ _ _ _ _) hxh rfl hl.1 rfl (Nat.le_of_ble_eq_true rfl) dL_law_721 ⟨by show _ ≤ 601024; omega, by show _ ≤ 7293034; omega⟩ (fun H locs hP hD hS => ?_)
                            refine lv_istore (lv' := [(5, .int r_116.1), (0, .ref (b)), (1, .ref (Q 0 0)), (2, .ref (qM 0)), (3, .ref (qO 0)), (4, .int x4)]) hx hb dL_law_724 hl (by decide) rfl (fun ls hl => ?_)
                            refine lv_aload_n hx hb dL_law_726 rfl (lv_at hl 3 rfl) ?_
                            refine lv_aload_n hx hb dL_law_727 rfl (lv_at hl 1 rfl) ?_
                            refine lv_iload hx hb dL_law_728 (lv_at hl 5 rfl) ?_
                            refine lv_iconst (v := 1) hx hb dL_law_730 (by decide) ?_
                            refine lv_iadd hx hb dL_law_731 ?_
                            obtain ⟨hi_117, hf⟩ := oif hf
                            refine va_sld hx hb hX hbl hbA hS (inb_in hi_117) dL_law_732 ?_
                            refine lv_aload_n hx hb dL_law_733 rfl (lv_at hl 1 rfl) ?_
                            refine lv_iload hx hb dL_law_734 (lv_at hl 5 rfl) ?_
                            refine lv_iconst (v := 2) hx hb dL_law_736 (by decide) ?_
                            refine lv_iadd hx hb dL_law_737 ?_
                            obtain ⟨hi_118, hf⟩ := oif hf
                            refine va_sld hx hb hX hbl hbA hS (inb_in hi_118) dL_law_738 ?_
                            obtain ⟨r_119, hr_119, hf⟩ := obd hf
                            refine cWiV (As := [.int (xs (x4 + (1 : Int32)).toNatClampNeg), .int (xs (x4 + (2 : Int32)).toNatClampNeg)]) (rest := []) (W1 := (wDesk cA Q r_116.2.1 ++ (wMd cA qM r_119.2 ++ wOut cA qO r_116.2.2))) ⟨hx, hb, hml, hown, hts⟩ (m_X7_same l G cA qM zM (xs (x4 + (1 : Int32)).toNatClampNeg) (xs (x4 + (2 : Int32)).toNatClampNeg) r_119 hr_119) (cw_X7_same hts wi_891 ⟨Nat.le_of_ble_eq_true rfl, Nat.le_of_ble_eq_true rfl⟩) hK hP hD hS lawIs_M lawBs_M (lawC_M cA Q qM qO _ _ _) (by decide) (lawB_M cA Q qM qO _ _ _ _) (by decide) (lawAdr cA Q qM qO _ _ _ _ _ _) va_Pnil dj_nil (va_recv hK.1 hP (ci := 5) (q0 := 47) rfl rfl) rfl hl.1 rfl (Nat.le_of_ble_eq_true rfl) dL_law_739 ⟨by show _ ≤ 601024; omega, by show _ ≤ 7293034; omega⟩ (fun H locs hP hD hS => ?_)
                            refine lv_istore (lv' := [(6, .int r_119.1), (5, .int r_116.1), (0, .ref (b)), (1, .ref (Q 0 0)), (2, .ref (qM 0)), (3, .ref (qO 0)), (4, .int x4)]) hx hb dL_law_742 hl (by decide) rfl (fun ls hl => ?_)
                            refine lv_aload_n hx hb dL_law_744 rfl (lv_at hl 4 rfl) ?_
                            obtain ⟨r_120, hr_120, hf⟩ := obd hf
                            refine cRiV (As := []) (rest := []) ⟨hx, hb, hml, hown, hts⟩ (m_X7_thrown l G cA qM r_119.2  r_120 hr_120) (cw_X7_thrown hts wi_711 ⟨Nat.le_of_ble_eq_true rfl, Nat.le_of_ble_eq_true rfl⟩) hK (pk hP [47, 48, 49, 50, 51] (lawC_M cA Q qM qO _ _ _)) (va_recv hK.1 hP (ci := 5) (q0 := 47) rfl rfl) rfl hl.1 rfl (Nat.le_of_ble_eq_true rfl) dL_law_745 ⟨by show _ ≤ 601024; omega, by show _ ≤ 7293034; omega⟩ ?_
                            refine lv_iload hx hb dL_law_748 (lv_at hl 1 rfl) ?_
                            refine lv_icmp_eq (tgt := 755) hx hb dL_law_750 (by decide) (fun c_121 => ?_) (fun c_121 => ?_)
                            · rw [if_pos (c_121)] at hf
                              refine lv_iload hx hb dL_law_755 (lv_at hl 1 rfl) ?_
                              refine lv_if_ne (tgt := 779) hx hb dL_law_757 (by decide) (fun c_122 => ?_) (fun c_122 => ?_)
                              · rw [if_pos (c_122)] at hf
                                exact b_L_law_779 Q qM qO htr C0 hK hxh fu (fun zD_ zM_ zO_ x4_ => f_L_law_23 xs L fu zD_ zM_ zO_ x4_) ih r_116.2.1 r_119.2 r_116.2.2 x4 H locs ls _ _ (by omega) (by omega) hP hD hS (lv_sub hl [2, 3, 4, 5, 6] rfl) hf
                              · rw [if_neg (not_not_intro c_122)] at hf
                                refine lv_aload_n hx hb dL_law_760 rfl (lv_at hl 5 rfl) ?_
                                refine lv_iconst (v := 0) hx hb dL_law_761 (by decide) ?_
                                obtain ⟨hi_123, hf⟩ := oif hf
                                refine va_lald hx hb hK.1 hP 52 1 rfl rfl (inb_in hi_123) dL_law_762 ?_
                                refine lv_iload hx hb dL_law_763 (lv_at hl 0 rfl) ?_
                                refine lv_if_eq (tgt := 772) hx hb dL_law_765 (by decide) (fun c_124 => ?_) (fun c_124 => ?_)
                                · rw [if_pos (c_124)] at hf
                                  refine lv_lconst (v := (0 : Int64)) hx hb dL_law_772 (by decide) ?_
                                  exact b_L_law_773 Q qM qO htr C0 hK hxh fu (fun zD_ zM_ zO_ x4_ => f_L_law_23 xs L fu zD_ zM_ zO_ x4_) ih r_116.2.1 r_119.2 r_116.2.2 x4 (r_116.2.2 (0 : Int32).toNatClampNeg) (0 : Int64) H locs ls _ _ (by omega) (by omega) hP hD hS (lv_sub hl [2, 3, 4, 5, 6] rfl) hf
                                · rw [if_neg (c_124)] at hf
                                  refine lv_lconst (v := (1 : Int64)) hx hb dL_law_768 (by decide) ?_
                                  refine lv_goto (tgt := 773) hx hb dL_law_769 (by decide) ?_
                                  exact b_L_law_773 Q qM qO htr C0 hK hxh fu (fun zD_ zM_ zO_ x4_ => f_L_law_23 xs L fu zD_ zM_ zO_ x4_) ih r_116.2.1 r_119.2 r_116.2.2 x4 (r_116.2.2 (0 : Int32).toNatClampNeg) (1 : Int64) H locs ls _ _ (by omega) (by omega) hP hD hS (lv_sub hl [2, 3, 4, 5, 6] rfl) hf
                            · rw [if_neg (c_121)] at hf
                              refine lv_iconst (v := 0) hx hb dL_law_753 (by decide) ?_
                              exact absurd (Option.some.inj hf) (by decide)
                          · rw [if_neg c_113] at hf
                            by_cases c_125 : ((xs x4.toNatClampNeg) &&& (15 : Int32)) = 11
                            · rw [if_pos c_125] at hf
                              rw [c_125]
                              refine lv_tableIn (tgt := 782) (off := 742) hx hb dL_law_40 (by decide) (by decide) (by decide) (by decide) ?_
                              refine lv_aload_n hx hb dL_law_782 rfl (lv_at hl 1 rfl) ?_
                              refine lv_aload_n hx hb dL_law_783 rfl (lv_at hl 0 rfl) ?_
                              refine lv_iload hx hb dL_law_784 (lv_at hl 4 rfl) ?_
                              refine lv_iconst (v := 1) hx hb dL_law_786 (by decide) ?_
                              refine lv_iadd hx hb dL_law_787 ?_
                              obtain ⟨hi_126, hf⟩ := oif hf
                              refine va_sld hx hb hX hbl hbA hS (inb_in hi_126) dL_law_788 ?_
                              refine lv_aload_n hx hb dL_law_789 rfl (lv_at hl 3 rfl) ?_
                              obtain ⟨r_127, hr_127, hf⟩ := obd hf
                              refine cHiS (As := [.ref (Q 0 0), .int (xs (x4 + (1 : Int32)).toNatClampNeg), .ref (qO 0)]) (rest := []) (W1 := (wDesk cA Q r_127.2.1 ++ (wMd cA qM zM ++ wOut cA qO r_127.2.2))) ⟨hx, hb, hml, hown, hts⟩ (m_L_terms l htr G cA sa Q qO zD zO (xs (x4 + (1 : Int32)).toNatClampNeg) r_127 hr_127) (cw_L_terms hts wi_644 ⟨Nat.le_of_ble_eq_true rfl, Nat.le_of_ble_eq_true rfl⟩) hK hP hD hS lawIs_DO lawBs_DO (lawC_DO cA Q qM qO _ _ _) (by decide) (lawB_DO cA Q qM qO _ _ _ _ _) (by decide) (lawAdr cA Q qM qO _ _ _ _ _ _) hxh rfl hl.1 rfl (Nat.le_of_ble_eq_true rfl) dL_law_790 ⟨by show _ ≤ 601024; omega, by show _ ≤ 7293034; omega⟩ (fun H locs hP hD hS => ?_)
                              refine lv_istore (lv' := [(5, .int r_127.1), (0, .ref (b)), (1, .ref (Q 0 0)), (2, .ref (qM 0)), (3, .ref (qO 0)), (4, .int x4)]) hx hb dL_law_793 hl (by decide) rfl (fun ls hl => ?_)
                              refine lv_aload_n hx hb dL_law_795 rfl (lv_at hl 3 rfl) ?_
                              refine lv_aload_n hx hb dL_law_796 rfl (lv_at hl 1 rfl) ?_
                              refine lv_iload hx hb dL_law_797 (lv_at hl 5 rfl) ?_
                              refine lv_iconst (v := 1) hx hb dL_law_799 (by decide) ?_
                              refine lv_iadd hx hb dL_law_800 ?_
                              obtain ⟨hi_128, hf⟩ := oif hf
                              refine va_sld hx hb hX hbl hbA hS (inb_in hi_128) dL_law_801 ?_
                              obtain ⟨r_129, hr_129, hf⟩ := obd hf
                              refine cWiV (As := [.int (xs (x4 + (1 : Int32)).toNatClampNeg)]) (rest := []) (W1 := (wDesk cA Q r_127.2.1 ++ (wMd cA qM r_129.2 ++ wOut cA qO r_127.2.2))) ⟨hx, hb, hml, hown, hts⟩ (m_X7_terms l G cA qM zM (xs (x4 + (1 : Int32)).toNatClampNeg) r_129 hr_129) (cw_X7_terms hts wi_895 ⟨Nat.le_of_ble_eq_true rfl, Nat.le_of_ble_eq_true rfl⟩) hK hP hD hS lawIs_M lawBs_M (lawC_M cA Q qM qO _ _ _) (by decide) (lawB_M cA Q qM qO _ _ _ _) (by decide) (lawAdr cA Q qM qO _ _ _ _ _ _) va_Pnil dj_nil (va_recv hK.1 hP (ci := 5) (q0 := 47) rfl rfl) rfl hl.1 rfl (Nat.le_of_ble_eq_true rfl) dL_law_802 ⟨by show _ ≤ 601024; omega, by show _ ≤ 7293034; omega⟩ (fun H locs hP hD hS => ?_)
                              refine lv_istore (lv' := [(6, .int r_129.1), (5, .int r_127.1), (0, .ref (b)), (1, .ref (Q 0 0)), (2, .ref (qM 0)), (3, .ref (qO 0)), (4, .int x4)]) hx hb dL_law_805 hl (by decide) rfl (fun ls hl => ?_)
                              refine lv_aload_n hx hb dL_law_807 rfl (lv_at hl 4 rfl) ?_
                              obtain ⟨r_130, hr_130, hf⟩ := obd hf
                              refine cRiV (As := []) (rest := []) ⟨hx, hb, hml, hown, hts⟩ (m_X7_thrown l G cA qM r_129.2  r_130 hr_130) (cw_X7_thrown hts wi_711 ⟨Nat.le_of_ble_eq_true rfl, Nat.le_of_ble_eq_true rfl⟩) hK (pk hP [47, 48, 49, 50, 51] (lawC_M cA Q qM qO _ _ _)) (va_recv hK.1 hP (ci := 5) (q0 := 47) rfl rfl) rfl hl.1 rfl (Nat.le_of_ble_eq_true rfl) dL_law_808 ⟨by show _ ≤ 601024; omega, by show _ ≤ 7293034; omega⟩ ?_
                              refine lv_iload hx hb dL_law_811 (lv_at hl 1 rfl) ?_
                              refine lv_icmp_eq (tgt := 818) hx hb dL_law_813 (by decide) (fun c_131 => ?_) (fun c_131 => ?_)
                              · rw [if_pos (c_131)] at hf
                                refine lv_iload hx hb dL_law_818 (lv_at hl 1 rfl) ?_
                                refine lv_if_ne (tgt := 835) hx hb dL_law_820 (by decide) (fun c_132 => ?_) (fun c_132 => ?_)
                                · rw [if_pos (c_132)] at hf
                                  exact b_L_law_835 Q qM qO htr C0 hK hxh fu (fun zD_ zM_ zO_ x4_ => f_L_law_23 xs L fu zD_ zM_ zO_ x4_) ih r_127.2.1 r_129.2 r_127.2.2 x4 H locs ls _ _ (by omega) (by omega) hP hD hS (lv_sub hl [2, 3, 4, 5, 6] rfl) hf
                                · rw [if_neg (not_not_intro c_132)] at hf
                                  refine lv_aload_n hx hb dL_law_823 rfl (lv_at hl 5 rfl) ?_
                                  refine lv_iconst (v := 0) hx hb dL_law_824 (by decide) ?_
                                  obtain ⟨hi_133, hf⟩ := oif hf
                                  refine va_lald hx hb hK.1 hP 52 1 rfl rfl (inb_in hi_133) dL_law_825 ?_
                                  refine lv_iload hx hb dL_law_826 (lv_at hl 0 rfl) ?_
                                  refine lv_i2l (v := r_129.1.toInt64) hx hb dL_law_828 rfl ?_
                                  refine W.lcmp hx hb dL_law_829 ?_
                                  refine lv_if_eq (tgt := 835) hx hb dL_law_830 (by decide) (fun c_134 => ?_) (fun c_134 => ?_)
                                  · rw [if_pos ((lg_cmp_eq _ _).mp c_134)] at hf
                                    exact b_L_law_835 Q qM qO htr C0 hK hxh fu (fun zD_ zM_ zO_ x4_ => f_L_law_23 xs L fu zD_ zM_ zO_ x4_) ih r_127.2.1 r_129.2 r_127.2.2 x4 H locs ls _ _ (by omega) (by omega) hP hD hS (lv_sub hl [2, 3, 4, 5, 6] rfl) hf
                                  · rw [if_neg (fun h => c_134 ((lg_cmp_eq _ _).mpr h))] at hf
                                    refine lv_iconst (v := 0) hx hb dL_law_833 (by decide) ?_
                                    exact absurd (Option.some.inj hf) (by decide)
                              · rw [if_neg (c_131)] at hf
                                refine lv_iconst (v := 0) hx hb dL_law_816 (by decide) ?_
                                exact absurd (Option.some.inj hf) (by decide)
                            · rw [if_neg c_125] at hf
                              by_cases c_135 : ((xs x4.toNatClampNeg) &&& (15 : Int32)) = 12
                              · rw [if_pos c_135] at hf
                                rw [c_135]
                                refine lv_tableIn (tgt := 838) (off := 798) hx hb dL_law_40 (by decide) (by decide) (by decide) (by decide) ?_
                                refine lv_aload_n hx hb dL_law_838 rfl (lv_at hl 1 rfl) ?_
                                refine lv_aload_n hx hb dL_law_839 rfl (lv_at hl 0 rfl) ?_
                                refine lv_iload hx hb dL_law_840 (lv_at hl 4 rfl) ?_
                                refine lv_iconst (v := 1) hx hb dL_law_842 (by decide) ?_
                                refine lv_iadd hx hb dL_law_843 ?_
                                obtain ⟨hi_136, hf⟩ := oif hf
                                refine va_sld hx hb hX hbl hbA hS (inb_in hi_136) dL_law_844 ?_
                                refine lv_aload_n hx hb dL_law_845 rfl (lv_at hl 0 rfl) ?_
                                refine lv_iload hx hb dL_law_846 (lv_at hl 4 rfl) ?_
                                refine lv_iconst (v := 2) hx hb dL_law_848 (by decide) ?_
                                refine lv_iadd hx hb dL_law_849 ?_
                                obtain ⟨hi_137, hf⟩ := oif hf
                                refine va_sld hx hb hX hbl hbA hS (inb_in hi_137) dL_law_850 ?_
                                refine lv_aload_n hx hb dL_law_851 rfl (lv_at hl 0 rfl) ?_
                                refine lv_iload hx hb dL_law_852 (lv_at hl 4 rfl) ?_
                                refine lv_iconst (v := 3) hx hb dL_law_854 (by decide) ?_
                                refine lv_iadd hx hb dL_law_855 ?_
                                obtain ⟨hi_138, hf⟩ := oif hf
                                refine va_sld hx hb hX hbl hbA hS (inb_in hi_138) dL_law_856 ?_
                                refine lv_aload_n hx hb dL_law_857 rfl (lv_at hl 3 rfl) ?_
                                obtain ⟨r_139, hr_139, hf⟩ := obd hf
                                refine cHiS (As := [.ref (Q 0 0), .int (xs (x4 + (1 : Int32)).toNatClampNeg), .int (xs (x4 + (2 : Int32)).toNatClampNeg), .int (xs (x4 + (3 : Int32)).toNatClampNeg), .ref (qO 0)]) (rest := []) (W1 := (wDesk cA Q r_139.2.1 ++ (wMd cA qM zM ++ wOut cA qO r_139.2.2))) ⟨hx, hb, hml, hown, hts⟩ (m_L_term l htr G cA sa Q qO zD zO (xs (x4 + (1 : Int32)).toNatClampNeg) (xs (x4 + (2 : Int32)).toNatClampNeg) (xs (x4 + (3 : Int32)).toNatClampNeg) r_139 hr_139) (cw_L_term hts wi_651 ⟨Nat.le_of_ble_eq_true rfl, Nat.le_of_ble_eq_true rfl⟩) hK hP hD hS lawIs_DO lawBs_DO (lawC_DO cA Q qM qO _ _ _) (by decide) (lawB_DO cA Q qM qO _ _ _ _ _) (by decide) (lawAdr cA Q qM qO _ _ _ _ _ _) hxh rfl hl.1 rfl (Nat.le_of_ble_eq_true rfl) dL_law_858 ⟨by show _ ≤ 601024; omega, by show _ ≤ 7293034; omega⟩ (fun H locs hP hD hS => ?_)
                                refine lv_istore (lv' := [(5, .int r_139.1), (0, .ref (b)), (1, .ref (Q 0 0)), (2, .ref (qM 0)), (3, .ref (qO 0)), (4, .int x4)]) hx hb dL_law_861 hl (by decide) rfl (fun ls hl => ?_)
                                refine lv_aload_n hx hb dL_law_863 rfl (lv_at hl 3 rfl) ?_
                                refine lv_aload_n hx hb dL_law_864 rfl (lv_at hl 1 rfl) ?_
                                refine lv_iload hx hb dL_law_865 (lv_at hl 5 rfl) ?_
                                refine lv_iconst (v := 1) hx hb dL_law_867 (by decide) ?_
                                refine lv_iadd hx hb dL_law_868 ?_
                                obtain ⟨hi_140, hf⟩ := oif hf
                                refine va_sld hx hb hX hbl hbA hS (inb_in hi_140) dL_law_869 ?_
                                refine lv_aload_n hx hb dL_law_870 rfl (lv_at hl 1 rfl) ?_
                                refine lv_iload hx hb dL_law_871 (lv_at hl 5 rfl) ?_
                                refine lv_iconst (v := 2) hx hb dL_law_873 (by decide) ?_
                                refine lv_iadd hx hb dL_law_874 ?_
                                obtain ⟨hi_141, hf⟩ := oif hf
                                refine va_sld hx hb hX hbl hbA hS (inb_in hi_141) dL_law_875 ?_
                                refine lv_aload_n hx hb dL_law_876 rfl (lv_at hl 1 rfl) ?_
                                refine lv_iload hx hb dL_law_877 (lv_at hl 5 rfl) ?_
                                refine lv_iconst (v := 3) hx hb dL_law_879 (by decide) ?_
                                refine lv_iadd hx hb dL_law_880 ?_
                                obtain ⟨hi_142, hf⟩ := oif hf
                                refine va_sld hx hb hX hbl hbA hS (inb_in hi_142) dL_law_881 ?_
                                obtain ⟨r_143, hr_143, hf⟩ := obd hf
                                refine cWlV (As := [.int (xs (x4 + (1 : Int32)).toNatClampNeg), .int (xs (x4 + (2 : Int32)).toNatClampNeg), .int (xs (x4 + (3 : Int32)).toNatClampNeg)]) (rest := []) (W1 := (wDesk cA Q r_139.2.1 ++ (wMd cA qM r_143.2 ++ wOut cA qO r_139.2.2))) ⟨hx, hb, hml, hown, hts⟩ (m_X7_term l G cA qM zM (xs (x4 + (1 : Int32)).toNatClampNeg) (xs (x4 + (2 : Int32)).toNatClampNeg) (xs (x4 + (3 : Int32)).toNatClampNeg) r_143 hr_143) (cw_X7_term hts wi_899 ⟨Nat.le_of_ble_eq_true rfl, Nat.le_of_ble_eq_true rfl⟩) hK hP hD hS lawIs_M lawBs_M (lawC_M cA Q qM qO _ _ _) (by decide) (lawB_M cA Q qM qO _ _ _ _) (by decide) (lawAdr cA Q qM qO _ _ _ _ _ _) va_Pnil dj_nil (va_recv hK.1 hP (ci := 5) (q0 := 47) rfl rfl) rfl hl.1 rfl (Nat.le_of_ble_eq_true rfl) dL_law_882 ⟨by show _ ≤ 601024; omega, by show _ ≤ 7293034; omega⟩ (fun H locs hP hD hS => ?_)
                                refine lv_lstore (lv' := [(6, .long r_143.1), (5, .int r_139.1), (0, .ref (b)), (1, .ref (Q 0 0)), (2, .ref (qM 0)), (3, .ref (qO 0)), (4, .int x4)]) hx hb dL_law_885 hl (by decide) rfl (fun ls hl => ?_)
                                refine lv_aload_n hx hb dL_law_887 rfl (lv_at hl 4 rfl) ?_
                                obtain ⟨r_144, hr_144, hf⟩ := obd hf
                                refine cRiV (As := []) (rest := []) ⟨hx, hb, hml, hown, hts⟩ (m_X7_thrown l G cA qM r_143.2  r_144 hr_144) (cw_X7_thrown hts wi_711 ⟨Nat.le_of_ble_eq_true rfl, Nat.le_of_ble_eq_true rfl⟩) hK (pk hP [47, 48, 49, 50, 51] (lawC_M cA Q qM qO _ _ _)) (va_recv hK.1 hP (ci := 5) (q0 := 47) rfl rfl) rfl hl.1 rfl (Nat.le_of_ble_eq_true rfl) dL_law_888 ⟨by show _ ≤ 601024; omega, by show _ ≤ 7293034; omega⟩ ?_
                                refine lv_iload hx hb dL_law_891 (lv_at hl 1 rfl) ?_
                                refine lv_icmp_eq (tgt := 898) hx hb dL_law_893 (by decide) (fun c_145 => ?_) (fun c_145 => ?_)
                                · rw [if_pos (c_145)] at hf
                                  refine lv_iload hx hb dL_law_898 (lv_at hl 1 rfl) ?_
                                  refine lv_if_ne (tgt := 914) hx hb dL_law_900 (by decide) (fun c_146 => ?_) (fun c_146 => ?_)
                                  · rw [if_pos (c_146)] at hf
                                    exact b_L_law_914 Q qM qO htr C0 hK hxh fu (fun zD_ zM_ zO_ x4_ => f_L_law_23 xs L fu zD_ zM_ zO_ x4_) ih r_139.2.1 r_143.2 r_139.2.2 x4 H locs ls _ _ (by omega) (by omega) hP hD hS (lv_sub hl [2, 3, 4, 5, 6] rfl) hf
                                  · rw [if_neg (not_not_intro c_146)] at hf
                                    refine lv_aload_n hx hb dL_law_903 rfl (lv_at hl 5 rfl) ?_
                                    refine lv_iconst (v := 0) hx hb dL_law_904 (by decide) ?_
                                    obtain ⟨hi_147, hf⟩ := oif hf
                                    refine va_lald hx hb hK.1 hP 52 1 rfl rfl (inb_in hi_147) dL_law_905 ?_
                                    refine lv_lload hx hb dL_law_906 (lv_at hl 0 rfl) ?_
                                    refine W.lcmp hx hb dL_law_908 ?_
                                    refine lv_if_eq (tgt := 914) hx hb dL_law_909 (by decide) (fun c_148 => ?_) (fun c_148 => ?_)
                                    · rw [if_pos ((lg_cmp_eq _ _).mp c_148)] at hf
                                      exact b_L_law_914 Q qM qO htr C0 hK hxh fu (fun zD_ zM_ zO_ x4_ => f_L_law_23 xs L fu zD_ zM_ zO_ x4_) ih r_139.2.1 r_143.2 r_139.2.2 x4 H locs ls _ _ (by omega) (by omega) hP hD hS (lv_sub hl [2, 3, 4, 5, 6] rfl) hf
                                    · rw [if_neg (fun h => c_148 ((lg_cmp_eq _ _).mpr h))] at hf
                                      refine lv_iconst (v := 0) hx hb dL_law_912 (by decide) ?_
                                      exact absurd (Option.some.inj hf) (by decide)
                                · rw [if_neg (c_145)] at hf
                                  refine lv_iconst (v := 0) hx hb dL_law_896 (by decide) ?_
                                  exact absurd (Option.some.inj hf) (by decide)
                              · rw [if_neg c_135] at hf
                                refine lv_tableOut (tgt := 917) hx hb dL_law_40 (by have h0 := lv_neT (a := 0) c_3 (by decide); have h1 := lv_neT (a := 1) c_21 (by decide); have h2 := lv_neT (a := 2) c_25 (by decide); have h3 := lv_neT (a := 3) c_35 (by decide); have h4 := lv_neT (a := 4) c_39 (by decide); have h5 := lv_neT (a := 5) c_49 (by decide); have h6 := lv_neT (a := 6) c_55 (by decide); have h7 := lv_neT (a := 7) c_73 (by decide); have h8 := lv_neT (a := 8) c_87 (by decide); have h9 := lv_neT (a := 9) c_99 (by decide); have h10 := lv_neT (a := 10) c_113 (by decide); have h11 := lv_neT (a := 11) c_125 (by decide); have h12 := lv_neT (a := 12) c_135 (by decide); omega) (by decide) ?_
                                exact b_L_law_917 Q qM qO htr C0 hK hxh fu (fun zD_ zM_ zO_ x4_ => f_L_law_23 xs L fu zD_ zM_ zO_ x4_) ih zD zM zO x4 H locs ls _ _ (by omega) (by omega) hP hD hS (lv_sub hl [0, 1, 2, 3, 4] rfl) hf
