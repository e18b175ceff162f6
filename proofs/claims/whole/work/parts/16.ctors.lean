def zSum0 : SumS := (0, 0, fun _ => 0, fun _ => 0, fun _ => 0)
def zLine0 : LineS := (0, fun _ => 0)
def zRd0 : RdS := (0, 0, -1, 0, 1, 0, 0, 0)
def zWr0 : WrS := (0, fun _ => 0)
def dn1 (k : Nat) : Nat → Int64 := fun j => if j < k then 1 else 0
def zMd0 (k : Nat) : MdS := (0, 0, 0, -1, 0, 0, 0, 0, 0, fun _ => 0, fun _ => 0, fun _ => 0, dn1 k)
def zDesk0 : DeskS := (fun _ => zSum0, zSum0, zSum0, zLine0, zRd0, zWr0)
def mk1 (a : Nat) : Nat → Nat := fun _ => a
def mk2 (a b : Nat) : Nat → Nat := fun i => match i with
  | 0 => a
  | _ => b
def mk4 (a b c d : Nat) : Nat → Nat := fun i => match i with
  | 0 => a
  | 1 => b
  | 2 => c
  | _ => d
def mk5 (a b c d e : Nat) : Nat → Nat := fun i => match i with
  | 0 => a
  | 1 => b
  | 2 => c
  | 3 => d
  | _ => e
def cI (G : va_G) (cA : Nat → ClassId) (av : List Value) (ws : va_W) (sz : Nat) : Array Value → State → Prop := va_Pc av (fun U => U.heap.size = sz ∧ kOK G cA U ∧ va_P G vwCl ws U.heap ∧ va_D (fun _ => True) ws)
theorem cI.blind {G : va_G} {cA : Nat → ClassId} {av : List Value} {ws : va_W} {sz : Nat} : FrameBlind (cI G cA av ws sz) := fun a U g mk q => ⟨q.1, q.2.1, kOK.same (u := U) rfl q.2.2.1, q.2.2.2⟩
def qI (G : va_G) (w0 : Nat × va_E) (sz : Nat) (wf : (Nat → Nat) → va_W) : Array Value → State → Outcome → State → Prop := va_Qv (fun q : Nat → Nat => q 0 = w0.1) (fun q t => va_P G vwCl (wf q) t.heap ∧ va_D (va_A [w0] sz) (wf q)) (va_A [w0] sz)
def MI (l : Launch) (y : MethodName) (ws : List Cond) (rm : Room) (G : va_G) (cA : Nat → ClassId) (av : List Value) (w0 : Nat × va_E) (sz : Nat) (wf : (Nat → Nat) → va_W) (mc ms : Nat) : Prop := Met l y ws rm (cI G cA av [w0] sz) (qI G w0 sz wf) mc ms (va_A [w0] sz)
theorem wo_inst : Cond.instanceMethod Lib.objectInit ∈ wd := wd_1 (List.mem_of_getElem? (i := 21) (by decide +kernel)) rfl
theorem wo_code : Cond.code Lib.objectInit ⟨#[0xb1]⟩ 1 none ∈ wd := wd_1 (List.mem_of_getElem? (i := 22) (rfl)) rfl
theorem wo_X6 : Cond.methodLink RX6 3 Lib.objectInit ∈ wd := wd_1 (List.mem_of_getElem? (i := 20) (by decide +kernel)) rfl
theorem wo_X4 : Cond.methodLink RX4 3 Lib.objectInit ∈ wd := wd_1 (List.mem_of_getElem? (i := 29) (by decide +kernel)) rfl
theorem wo_X1 : Cond.methodLink RX1 3 Lib.objectInit ∈ wd := wd_1 (List.mem_of_getElem? (i := 56) (by decide +kernel)) rfl
theorem wo_X3 : Cond.methodLink RX3 3 Lib.objectInit ∈ wd := wd_1 (List.mem_of_getElem? (i := 72) (by decide +kernel)) rfl
theorem wo_X5 : Cond.methodLink RX5 3 Lib.objectInit ∈ wd := wd_1 (List.mem_of_getElem? (i := 109) (by decide +kernel)) rfl
theorem wo_X7 : Cond.methodLink RX7 1 Lib.objectInit ∈ wd := wd_3 (List.mem_of_getElem? (i := 136) (by decide +kernel)) rfl
theorem join_end {G : va_G} {cl : List vw_C} {A : Nat → Prop} {X w1 : va_W} {w0 : Nat × va_E} {H H1 : Heap} (hP : va_P G cl (X ++ [w0]) H) (hD : va_D A (X ++ [w0])) (hk : ∀ q : Nat, q < H.size → ¬ va_A [w0] H.size q → H1[q]? = H[q]?) (hF : ∀ q, va_A [w0] H.size q → A q) (hP1 : va_P G cl w1 H1) (hD1 : va_D (va_A [w0] H.size) w1) : va_P G cl (X ++ w1) H1 ∧ va_D A (X ++ w1) := by
  have lift : ∀ (k : Nat) (q : Nat × va_E), X[k]? = some q → (X ++ [w0])[k]? = some q := fun k q hq => by
    rw [List.getElem?_append_left (List.getElem?_eq_some_iff.mp hq).1]; exact hq
  have hlast : (X ++ [w0])[X.length]? = some w0 := by simp
  have hX : ∀ (k : Nat) (q : Nat × va_E), X[k]? = some q → q.1 < H.size ∧ ¬ va_A [w0] H.size q.1 := by
    intro k q hq
    have hl := (hP k q (lift k q hq)).lt
    refine ⟨hl, fun h => ?_⟩
    rcases h with ⟨j, e, hj⟩ | h
    · have hj0 : j < 1 := (List.getElem?_eq_some_iff.mp hj).1
      have hj1 : j = 0 := by omega
      subst hj1
      cases hj
      have := hD.1 k X.length q _ (lift k q hq) hlast rfl
      have := (List.getElem?_eq_some_iff.mp hq).1
      omega
    · omega
  refine ⟨va_P.app (fun k q hq => (hP k q (lift k q hq)).kept (hk q.1 (hX k q hq).1 (hX k q hq).2)) hP1, va_D.app ⟨fun i j p q hp hq e => hD.1 i j p q (lift i p hp) (lift j q hq) e, fun k q hq => hD.2 k q (lift k q hq)⟩ (hD1.weaken (fun k q _ h => hF q.1 h)) (fun i j x y hx hy hxy => ?_)⟩
  exact (hX i x hx).2 (by rw [hxy]; exact hD1.2 j y hy)
section CT
variable {p : Program} {l : Launch} {e : Env} {R : Room} {s : State} {m : MethodId} {args : Array Value} {below : List Frame} {meth : Method} {c : Code} {H : Heap} {locs : List Loc} {cells slots : Nat} {Q : State → Prop} {cc : ByteArray} {pc : Nat} {ls : Array Slot} {rest st0 : List Value} {G : va_G} {cA : Nat → ClassId} {X : va_W} {A : Nat → Prop} {H0 : Heap}
theorem k_newa {atype : ArrayType} {ty : FieldType} (t0 : Nat) (hexec : p.tables.exec = Jvm.exec) (hb : c.code = cc) (hts : ∀ w ∈ wd, w.before args s = true) (harr : Cond.arrayClass ty ∈ wd) (hty : newarray.typeOf atype = ty) (ht : (tysA cA)[t0]? = some (cA t0, ty)) (hra : ∀ c1 : ClassId, va_RA s c1 ty → s.vm.findClass ("[" ++ ty.toString) = some c1)
    (hK : va_K G vwCl (tysA cA) s) (hP : va_P G vwCl X H) (hD : va_D A X) (hS : va_S A H0 H locs) (hA : ∀ q, H0.size ≤ q → A q) {N : Nat} {a0 : vp_A} (ha : ∀ c1 : ClassId, vp_cell c1 a0 = arrV c1 N (fun _ => defaultValue ty)) (hN : N < 2 ^ 31) (hbytes : N * componentBytes ty ≤ 536870912) (hcells : cells + 1 ≤ R.cells) (hslots : slots + N ≤ R.slots) (hdg : decode cc pc = .ok (.newarray atype, 2))
    (kk : ∀ (q : Nat) (H1 : Heap), va_P G vwCl (X ++ [(q, .inl (cA t0, a0))]) H1 → va_D A (X ++ [(q, .inl (cA t0, a0))]) → va_S A H0 H1 locs → W p l e R s m args below meth c H1 locs (cells + 1) (slots + N) Q (F0 m (pc + 2) ls (.ref q :: rest))) : W p l e R s m args below meth c H locs cells slots Q (F0 m pc ls (.int (nI N) :: rest)) := by
  refine va_newa hexec hb (by rw [hty]; exact hts _ harr) hty hK hP hD hS hA ha (nI_pos hN) (nI_clamp hN) hbytes hcells hslots hdg (fun q c1 H1 hK1 hP1 hD1 hS1 => ?_)
  have e1 := hra c1 (hK1.2 4 (c1, ty) rfl).2
  have e2 := hra (cA t0) (hK.2 t0 _ ht).2
  have e3 : c1 = cA t0 := Option.some.inj (e1.symm.trans e2)
  subst e3
  exact kk q H1 hP1 hD1 hS1
theorem k_newq {own : String} {index : Nat} (hexec : p.tables.exec = Jvm.exec) (hb : c.code = cc) (hown : s.vm.findClass own = some m.cls) (hclink : (Cond.classLink own index RX4).before args s = true) (hover : va_AO RX4 s)
    (hK : va_K G vwCl (tysA cA) s) (hP : va_P G vwCl X H) (hD : va_D A X) (hS : va_S A H0 H locs) (hA : ∀ q, H0.size ≤ q → A q) {N : Nat} (hN : N < 2 ^ 20) (hcells : cells + 1 ≤ R.cells) (hslots : slots + N ≤ R.slots) (hdg : decode cc pc = .ok (.anewarray index, 3))
    (kk : ∀ (q : Nat) (H1 : Heap), va_P G vwCl (X ++ [(q, .inl (cA 3, N, .inr (.inr (.inr (.inr (fun _ => none))))))]) H1 → va_D A (X ++ [(q, .inl (cA 3, N, .inr (.inr (.inr (.inr (fun _ => none))))))]) → va_S A H0 H1 locs → W p l e R s m args below meth c H1 locs (cells + 1) (slots + N) Q (F0 m (pc + 3) ls (.ref q :: rest))) : W p l e R s m args below meth c H locs cells slots Q (F0 m pc ls (.int (nI N) :: rest)) := by
  refine va_newq hexec hb hown hclink hover hK hP hD hS hA (nI_pos (by omega)) (nI_clamp (by omega)) (by omega) hcells hslots hdg (fun q c1 H1 hK1 hP1 hD1 hS1 => ?_)
  obtain ⟨-, -, -, -, -, e1⟩ := (hK1.2 4 (c1, .object RX4) rfl).2
  obtain ⟨-, -, -, -, -, e2⟩ := (hK.2 3 (cA 3, .object "AntiDesk$Sum") rfl).2
  have e3 : c1 = cA 3 := Option.some.inj (e1.symm.trans e2)
  subst e3
  exact kk q H1 hP1 hD1 hS1
theorem cCtor {S : Type} {b : S → Nat} {wf : S → va_W} {w0 : Nat × va_E} {mc ms : Nat} {a : Array Value} (hr : va_Run p l e R s m args below meth c H locs cells slots mc ms (F0 m pc ls st0) rest (va_Qv (fun q : S => b q = w0.1) (fun q t => va_P G vwCl (wf q) t.heap ∧ va_D (va_A [w0] H.size) (wf q)) (va_A [w0] H.size) a) (va_A [w0] H.size))
    (hP : va_P G vwCl (X ++ [w0]) H) (hD : va_D A (X ++ [w0])) (hS : va_S A H0 H locs) (hA : ∀ q, H0.size ≤ q → A q)
    (kk : ∀ (q : S) (H1 : Heap) (locs1 : List Loc), b q = w0.1 → va_P G vwCl (X ++ wf q) H1 → va_D A (X ++ wf q) → va_S A H0 H1 locs1 → W p l e R s m args below meth c H1 locs1 (cells + mc) (slots + ms) Q (F0 m (pc + 3) ls rest)) : W p l e R s m args below meth c H locs cells slots Q (F0 m pc ls st0) := by
  have hlast : (X ++ [w0])[X.length]? = some w0 := by simp
  have hF : ∀ q, va_A [w0] H.size q → A q := fun q h => by
    rcases h with ⟨j, e1, hj⟩ | h
    · have hj0 : j < 1 := (List.getElem?_eq_some_iff.mp hj).1
      have hj1 : j = 0 := by omega
      subst hj1
      cases hj
      exact hD.2 _ _ hlast
    · exact hA q (Nat.le_trans hS.1 h)
  refine va_callv hr hS (fun q _ h => hF q h) hF (fun q t H1 locs1 ht hvm hw hB1 hz1 hk1 hS1 => ?_)
  obtain ⟨hP2, hD2⟩ := join_end hP hD hk1 hF (by rw [← ht]; exact hB1.1) hB1.2
  exact kk q H1 locs1 hw hP2 hD2 hS1
theorem preI {w0 : Nat × va_E} {av : List Value} (hk : kOK G cA s) (hP : va_P G vwCl (X ++ [w0]) H) : ∀ U : State, U.heap = H → s.WarmedH U.vm → cI G cA av [w0] H.size av.toArray U := fun U hU hW => by
  have hlast : (X ++ [w0])[X.length]? = some w0 := by simp
  refine ⟨rfl, by rw [hU], hk.warm hW, fun k q hq => ?_, ⟨fun i j p q hp hq _ => ?_, fun _ _ _ => trivial⟩⟩
  · have hj0 : k < 1 := (List.getElem?_eq_some_iff.mp hq).1
    have hj1 : k = 0 := by omega
    subst hj1
    cases hq
    rw [hU]
    exact hP _ _ hlast
  · have h1 : i < 1 := (List.getElem?_eq_some_iff.mp hp).1
    have h2 : j < 1 := (List.getElem?_eq_some_iff.mp hq).1
    omega
theorem cwI9 {own : String} {y : MethodName} {bytes : ByteArray} {maxL mc ms index : Nat} {rm : Room} (n : Nat) (ht : ∀ w ∈ wd, w.before args s = true) (hcode : Cond.code y bytes maxL none ∈ wd) (hinst : Cond.instanceMethod y ∈ wd) (hini : Cond.initialized y.cls ∈ wd) (hlink : Cond.methodLink own index y ∈ wd) (hnm : y.name = "<init>")
    (hd : y.cls ≠ "java/lang/invoke/MethodHandle" ∧ y.cls ≠ "java/lang/invoke/VarHandle" ∧ (parseMethodDescriptor y.desc).map (fun d => d.parameters.length) = some n) (hrc : rm.cells = mc) (hrs : rm.slots = ms) (hR : rm.frames + 1 ≤ R.frames ∧ 8 + (maxL + 11) + rm.locals ≤ R.locals) :
    CallB R s args own index y bytes maxL none (Cond.code y bytes maxL none :: wd) rm mc ms n ∧ y.name = "<init>" ∧ (Cond.instanceMethod y).before args s = true := by
  have hG : GoodIn wd (Cond.code y bytes maxL none :: wd) := fun w h => by
    rcases List.mem_cons.mp h with rfl | h
    · exact ⟨hcode, good_of_word (List.mem_filter.mp hcode).2⟩
    · exact ⟨h, good_of_word (List.mem_filter.mp h).2⟩
  exact ⟨callB_of n ht hG rfl hrc hrs (ht _ hini) (ht _ hlink) hd hR, hnm, ht _ hinst⟩
theorem cwN9 {own host : String} {y : MethodName} {bytes : ByteArray} {maxL mc ms index : Nat} {rm : Room} (n : Nat) (ht : ∀ w ∈ wd, w.before args s = true) (hcode : Cond.code y bytes maxL none ∈ wd) (hinst : Cond.instanceMethod y ∈ wd) (hini : Cond.initialized y.cls ∈ wd) (hlink : va_Nw (.methodLinkNest own index y host) s) (hnm : y.name = "<init>")
    (hd : y.cls ≠ "java/lang/invoke/MethodHandle" ∧ y.cls ≠ "java/lang/invoke/VarHandle" ∧ (parseMethodDescriptor y.desc).map (fun d => d.parameters.length) = some n) (hrc : rm.cells = mc) (hrs : rm.slots = ms) (hR : rm.frames + 1 ≤ R.frames ∧ 8 + (maxL + 11) + rm.locals ≤ R.locals) :
    va_CN R s args own index y host bytes maxL none (Cond.code y bytes maxL none :: wd) rm mc ms n ∧ y.name = "<init>" ∧ (Cond.instanceMethod y).before args s = true := by
  have hG : GoodIn wd (Cond.code y bytes maxL none :: wd) := fun w h => by
    rcases List.mem_cons.mp h with rfl | h
    · exact ⟨hcode, good_of_word (List.mem_filter.mp hcode).2⟩
    · exact ⟨h, good_of_word (List.mem_filter.mp h).2⟩
  exact ⟨va_cnB n ht hG rfl hrc hrs hlink (ht _ hini) hd hR, hnm, ht _ hinst⟩
end CT
theorem zMd0_0 : uM_down (zMd0 0) (fun _ => 0) = zMd0 0 := by
  show (0, 0, 0, -1, 0, 0, 0, 0, 0, (fun _ => 0), (fun _ => 0), (fun _ => 0), (fun _ => 0)) = zMd0 0
  have h : dn1 0 = fun _ => 0 := by funext j; simp [dn1]
  rw [zMd0, h]
theorem zMd0_s (k : Nat) : uM_down (zMd0 k) (vp_updL (gM_down (zMd0 k)) k 1) = zMd0 (k + 1) := by
  show (0, 0, 0, -1, 0, 0, 0, 0, 0, (fun _ => 0), (fun _ => 0), (fun _ => 0), vp_updL (dn1 k) k 1) = zMd0 (k + 1)
  have h : vp_updL (dn1 k) k 1 = dn1 (k + 1) := by
    funext j
    simp only [vp_updL, dn1]
    by_cases h1 : j = k
    · subst h1; simp
    · rw [if_neg h1]
      by_cases h2 : j < k
      · rw [if_pos h2, if_pos (by omega)]
      · rw [if_neg h2, if_neg (by omega)]
  rw [zMd0, h]
def mkQ (a0 a1 a2 a3 a4 a5 b0 b1 b2 b3 b4 b5 b6 b7 : Nat → Nat) : Nat → Nat → Nat := fun i => match i with
  | 0 => a0
  | 1 => a1
  | 2 => a2
  | 3 => a3
  | 4 => a4
  | 5 => a5
  | 6 => b0
  | 7 => b1
  | 8 => b2
  | 9 => b3
  | 10 => b4
  | 11 => b5
  | 12 => b6
  | _ => b7
theorem arrV_congr (c : ClassId) (n : Nat) {f g : Nat → Value} (h : ∀ j, j < n → f j = g j) : arrV c n f = arrV c n g := by
  unfold arrV
  have : (fun j : Fin n => f j.val) = fun j : Fin n => g j.val := by funext j; exact h j.val j.isLt
  rw [this]
theorem va_P.arr {G : va_G} {cl : List vw_C} {W0 : va_W} {H : Heap} (hP : va_P G cl W0 H) (k a : Nat) {c : ClassId} {n : Nat} {f g : Nat → Option Nat} (hk : W0[k]? = some (a, .inl (c, n, .inr (.inr (.inr (.inr f)))))) (h : ∀ j, j < n → f j = g j) : va_P G cl (W0.set k (a, .inl (c, n, .inr (.inr (.inr (.inr g)))))) H := by
  intro i q hq
  by_cases hi : i = k
  · subst hi
    rw [List.getElem?_set_self (List.getElem?_eq_some_iff.mp hk).1] at hq
    cases hq
    have h1 : H[a]? = some (vp_cell c (n, .inr (.inr (.inr (.inr f))))) := hP i _ hk
    show H[a]? = some (vp_cell c (n, .inr (.inr (.inr (.inr g)))))
    rw [h1, vp_cell_q, vp_cell_q, arrV_congr c n (fun j hj => by rw [h j hj])]
  · rw [List.getElem?_set_ne (Ne.symm hi)] at hq
    exact hP i q hq
theorem va_D.pick {A : Nat → Prop} {W0 w : va_W} (hD : va_D A W0) (is : List Nat) (hn : va_nd is = true) (hs : is.map (fun i => W0[i]?) = w.map some) : va_D A w := hD.sub is hn hs
def cID (G : va_G) (cA : Nat → ClassId) (av : List Value) (ws : va_W) (sz : Nat) : Array Value → State → Prop := va_Pc av (fun U => U.heap.size = sz ∧ kOK G cA U ∧ va_P G vwCl ws U.heap ∧ va_D (fun _ => True) ws ∧ va_AO RX4 U ∧ va_Nw (.methodLinkNest RX6 27 yX1_init "AntiDesk") U ∧ va_Nw (.methodLinkNest RX6 43 yX5_init "AntiDesk") U)
theorem cID.blind {G : va_G} {cA : Nat → ClassId} {av : List Value} {ws : va_W} {sz : Nat} : FrameBlind (cID G cA av ws sz) := fun a U g mk q => ⟨q.1, q.2.1, kOK.same (u := U) rfl q.2.2.1, q.2.2.2.1, q.2.2.2.2.1, q.2.2.2.2.2.1.moved (Vm.Alike.refl _), va_Nw.same rfl (u := U) rfl q.2.2.2.2.2.2.1, va_Nw.same rfl (u := U) rfl q.2.2.2.2.2.2.2⟩
def MID (l : Launch) (y : MethodName) (ws : List Cond) (rm : Room) (G : va_G) (cA : Nat → ClassId) (av : List Value) (w0 : Nat × va_E) (sz : Nat) (mc ms : Nat) : Prop := Met l y ws rm (cID G cA av [w0] sz) (va_Qv (fun Q : Nat → Nat → Nat => Q 0 0 = w0.1) (fun Q t => va_P G vwCl (wDesk cA Q zDesk0) t.heap ∧ va_D (va_A [w0] sz) (wDesk cA Q zDesk0)) (va_A [w0] sz)) mc ms (va_A [w0] sz)
theorem tail_at (x y : Nat × va_E) (T : va_W) (cA : Nat → ClassId) (q : Nat → Nat) (R : Nat) (z : SumS) : (x :: y :: (T ++ wSum cA q R z))[2 + T.length]? = some (q 0, .inr (2, [.int (nI R), .ref (q 1), .ref (q 2), .ref (q 3), .int (gS_size z), .int (gS_ov z)])) := by
  rw [show 2 + T.length = T.length + 1 + 1 by omega, List.getElem?_cons_succ, List.getElem?_cons_succ, List.getElem?_append_right (Nat.le_refl _), Nat.sub_self]
  rfl
theorem va_P.perm {G : va_G} {cl : List vw_C} {W0 W1 : va_W} {H : Heap} (h : W0.Perm W1) (hP : va_P G cl W0 H) : va_P G cl W1 H := fun k q hq => by
  obtain ⟨i, hi⟩ := List.getElem?_of_mem (h.mem_iff.mpr (List.mem_of_getElem? hq))
  exact hP i q hi
theorem nodup_of_va_D {A : Nat → Prop} {W0 : va_W} (hD : va_D A W0) : (W0.map Prod.fst).Nodup := by
  refine List.pairwise_iff_getElem.mpr ?_
  intro i j hi hj hij he
  rw [List.length_map] at hi hj
  rw [List.getElem_map, List.getElem_map] at he
  have := hD.1 i j _ _ (List.getElem?_eq_getElem hi) (List.getElem?_eq_getElem hj) he
  omega
theorem va_D.perm {A : Nat → Prop} {W0 W1 : va_W} (h : W0.Perm W1) (hD : va_D A W0) : va_D A W1 := by
  have hn : (W1.map Prod.fst).Nodup := (h.map Prod.fst).nodup_iff.mp (nodup_of_va_D hD)
  have hn := List.pairwise_iff_getElem.mp hn
  have key : ∀ (i j : Nat) (p q : Nat × va_E), W1[i]? = some p → W1[j]? = some q → i < j → p.1 = q.1 → False := by
    intro i j p q hp hq hij e
    obtain ⟨hi, hp⟩ := List.getElem?_eq_some_iff.mp hp
    obtain ⟨hj, hq⟩ := List.getElem?_eq_some_iff.mp hq
    refine hn i j (by rw [List.length_map]; exact hi) (by rw [List.length_map]; exact hj) hij ?_
    rw [List.getElem_map, List.getElem_map, hp, hq]
    exact e
  refine ⟨fun i j p q hp hq e => ?_, fun k q hq => ?_⟩
  · rcases Nat.lt_trichotomy i j with h1 | h1 | h1
    · exact (key i j p q hp hq h1 e).elim
    · exact h1
    · exact (key j i q p hq hp h1 e.symm).elim
  · obtain ⟨i, hi⟩ := List.getElem?_of_mem (h.mem_iff.mpr (List.mem_of_getElem? hq))
    exact hD.2 i q hi
theorem desk_perm (a b : Nat × va_E) (S0 S1 S2 S3 S4 S5 S6 S7 Y0 Y1 Y2 Y3 Y4 : va_W) : (a :: b :: ((((((((((((([] ++ S0) ++ S1) ++ S2) ++ S3) ++ S4) ++ S5) ++ S6) ++ S7) ++ Y0) ++ Y1) ++ Y2) ++ Y3) ++ Y4)).Perm (a :: b :: (Y0 ++ (Y1 ++ (Y2 ++ (Y3 ++ (Y4 ++ (S0 ++ (S1 ++ (S2 ++ (S3 ++ (S4 ++ (S5 ++ (S6 ++ S7))))))))))))) := by
  refine List.Perm.cons _ (List.Perm.cons _ ?_)
  simp only [List.nil_append, List.append_assoc]
  have h := List.perm_append_comm (l₁ := S0 ++ (S1 ++ (S2 ++ (S3 ++ (S4 ++ (S5 ++ (S6 ++ S7))))))) (l₂ := Y0 ++ (Y1 ++ (Y2 ++ (Y3 ++ Y4))))
  simpa only [List.append_assoc] using h
theorem sameHead (x : Nat × va_E) (a : Nat) (e e' : va_E) (T : va_W) : (x :: (a, e') :: T).map Prod.fst = (x :: (a, e) :: T).map Prod.fst := rfl

def rm_X4_init (R : Nat) : Room := { frames := 1, cells := 3, slots := 3 * R, locals := 20 }
set_option maxHeartbeats 4000000 in
set_option maxRecDepth 100000 in
theorem m_X4_init (l : Launch) (G : va_G) (cA : Nat → ClassId) (h0 sz : Nat) (R : Nat) (hR : R ≤ 100000) : MI l yX4_init (.code yX4_init cX4_init 2 none :: wd) (rm_X4_init R) G cA [.ref h0, .int (nI R)] (h0, .inr (2, [.int 0, .null, .null, .null, .int 0, .int 0])) sz (fun q => wSum cA q R zSum0) 3 (3 * R) := by
  refine Met.ofW (cc := cX4_init) (maxL := 2) (ret := none) (by decide) rfl ?_
  intro p e s m args below meth c s₁ B hml hv
  obtain ⟨rfl, hsz, hK, hP, hD0⟩ := hv
  have hx := B.exec
  have hb := B.bytes
  have hr := B.returns
  have hlocks := B.notSynchronized
  have hts : ∀ w ∈ wd, w.before ([.ref h0, .int (nI R)] : List Value).toArray s = true := fun w h => atoms_spec (ws := (.code yX4_init cX4_init 2 none :: wd)) B.pre w (List.mem_cons_of_mem _ h)
  have hown : s.vm.findClass RX4 = some m.cls := findClass_of_methodNamed B.named
  have hin : meth.name = "<init>" := (name_of_methodNamed B.named B.method).1
  subst hsz
  have hD := hD0.self (sz := s.heap.size)
  show W p l e (rm_X4_init R) s m _ below meth c s.heap [] 0 0 (MQ below (qI G (h0, .inr (2, [.int 0, .null, .null, .null, .int 0, .int 0])) s.heap.size (fun q => wSum cA q R zSum0)) _ s 3 (3 * R) (va_A [(h0, .inr (2, [.int 0, .null, .null, .null, .int 0, .int 0]))] s.heap.size)) _
  generalize hAe : va_A [(h0, .inr (2, [.int 0, .null, .null, .null, .int 0, .int 0]))] s.heap.size = A at hD ⊢
  have hA : ∀ q : Nat, s.heap.size ≤ q → A q := fun q h => by rw [← hAe]; exact Or.inr h
  have hS : va_S A s.heap s.heap [] := va_S.rf
  have hl := lv_entry ([.ref h0, .int (nI R)]) (n := 2) (Nat.le_of_ble_eq_true rfl)
  rw [lg_entry_eq]
  generalize (lg_sl ([.ref h0, .int (nI R)]) ++ List.replicate (2 - (lg_sl ([.ref h0, .int (nI R)])).length) Slot.unset).toArray = ls at hl ⊢
  have hl : lv_has ls 2 [(0, .ref h0), (1, .int (nI R))] := hl
  refine lv_aload_n hx hb dX4_init_0 rfl (lv_at hl 0 rfl) ?_
  refine W.objInit hx hb hown (hts _ wo_X4) (hts _ wo_inst) (hts _ wo_code) rfl (by rw [hml]; exact hl.1) rfl dX4_init_1 (Nat.le_of_ble_eq_true rfl) (Nat.le_of_ble_eq_true rfl) ?_
  refine W.eq (g2 := F0 m 4 ls []) rfl ?_
  refine lv_aload_n hx hb dX4_init_4 rfl (lv_at hl 0 rfl) ?_
  refine lv_iload_n hx hb dX4_init_5 rfl (lv_at hl 1 rfl) ?_
  refine va_putF (D := G) (ci := 2) (v := .int (nI R)) (ty := .int) (C := RX4) (T := TX4) (N := 6) hx hb hts fin_X4 tyX4 tyX4_ok nmX4 hown hK.1 hP hD hS 0 rfl rfl 0 (by decide) (hts _ wi_84) (fun _ h9 => h9) rfl hin rfl (by decide +kernel) rfl rfl (Nat.le_of_ble_eq_true rfl) dX4_init_6 (fun H locs hP hD hS => ?_)
  have hP : va_P G vwCl [(h0, .inr (2, [.int (nI R), .null, .null, .null, .int 0, .int 0]))] H := hP
  have hD : va_D A [(h0, .inr (2, [.int (nI R), .null, .null, .null, .int 0, .int 0]))] := hD
  refine lv_aload_n hx hb dX4_init_9 rfl (lv_at hl 0 rfl) ?_
  refine lv_iload_n hx hb dX4_init_10 rfl (lv_at hl 1 rfl) ?_
  refine k_newa (ty := .int) (a0 := (R, .inl (fun _ => 0))) 0 hx hb hts wi_103 rfl rfl (fun _ h => h) hK.1 hP hD hS hA (fun _ => rfl) (by omega) (by simp only [componentBytes]; omega) (by show _ ≤ 3; omega) (by show _ ≤ 3 * R; omega) dX4_init_11 (fun q1 H hP hD hS => ?_)
  have hP : va_P G vwCl [(h0, .inr (2, [.int (nI R), .null, .null, .null, .int 0, .int 0])), (q1, .inl (cA 0, R, .inl (fun _ => 0)))] H := hP
  have hD : va_D A [(h0, .inr (2, [.int (nI R), .null, .null, .null, .int 0, .int 0])), (q1, .inl (cA 0, R, .inl (fun _ => 0)))] := hD
  refine va_putF (D := G) (ci := 2) (v := .ref q1) (ty := .array .int) (C := RX4) (T := TX4) (N := 6) hx hb hts fin_X4 tyX4 tyX4_ok nmX4 hown hK.1 hP hD hS 0 rfl rfl 1 (by decide) (hts _ wi_85) (fun _ h9 => h9) rfl hin rfl (by decide +kernel) rfl rfl (Nat.le_of_ble_eq_true rfl) dX4_init_13 (fun H locs hP hD hS => ?_)
  have hP : va_P G vwCl [(h0, .inr (2, [.int (nI R), .ref q1, .null, .null, .int 0, .int 0])), (q1, .inl (cA 0, R, .inl (fun _ => 0)))] H := hP
  have hD : va_D A [(h0, .inr (2, [.int (nI R), .ref q1, .null, .null, .int 0, .int 0])), (q1, .inl (cA 0, R, .inl (fun _ => 0)))] := hD
  refine lv_aload_n hx hb dX4_init_16 rfl (lv_at hl 0 rfl) ?_
  refine lv_iload_n hx hb dX4_init_17 rfl (lv_at hl 1 rfl) ?_
  refine k_newa (ty := .long) (a0 := (R, .inr (.inl (fun _ => 0)))) 1 hx hb hts wi_104 rfl rfl (fun _ h => h) hK.1 hP hD hS hA (fun _ => rfl) (by omega) (by simp only [componentBytes]; omega) (by show _ ≤ 3; omega) (by show _ ≤ 3 * R; omega) dX4_init_18 (fun q2 H hP hD hS => ?_)
  have hP : va_P G vwCl [(h0, .inr (2, [.int (nI R), .ref q1, .null, .null, .int 0, .int 0])), (q1, .inl (cA 0, R, .inl (fun _ => 0))), (q2, .inl (cA 1, R, .inr (.inl (fun _ => 0))))] H := hP
  have hD : va_D A [(h0, .inr (2, [.int (nI R), .ref q1, .null, .null, .int 0, .int 0])), (q1, .inl (cA 0, R, .inl (fun _ => 0))), (q2, .inl (cA 1, R, .inr (.inl (fun _ => 0))))] := hD
  refine va_putF (D := G) (ci := 2) (v := .ref q2) (ty := .array .long) (C := RX4) (T := TX4) (N := 6) hx hb hts fin_X4 tyX4 tyX4_ok nmX4 hown hK.1 hP hD hS 0 rfl rfl 2 (by decide) (hts _ wi_86) (fun _ h9 => h9) rfl hin rfl (by decide +kernel) rfl rfl (Nat.le_of_ble_eq_true rfl) dX4_init_20 (fun H locs hP hD hS => ?_)
  have hP : va_P G vwCl [(h0, .inr (2, [.int (nI R), .ref q1, .ref q2, .null, .int 0, .int 0])), (q1, .inl (cA 0, R, .inl (fun _ => 0))), (q2, .inl (cA 1, R, .inr (.inl (fun _ => 0))))] H := hP
  have hD : va_D A [(h0, .inr (2, [.int (nI R), .ref q1, .ref q2, .null, .int 0, .int 0])), (q1, .inl (cA 0, R, .inl (fun _ => 0))), (q2, .inl (cA 1, R, .inr (.inl (fun _ => 0))))] := hD
  refine lv_aload_n hx hb dX4_init_23 rfl (lv_at hl 0 rfl) ?_
  refine lv_iload_n hx hb dX4_init_24 rfl (lv_at hl 1 rfl) ?_
  refine k_newa (ty := .long) (a0 := (R, .inr (.inl (fun _ => 0)))) 1 hx hb hts wi_104 rfl rfl (fun _ h => h) hK.1 hP hD hS hA (fun _ => rfl) (by omega) (by simp only [componentBytes]; omega) (by show _ ≤ 3; omega) (by show _ ≤ 3 * R; omega) dX4_init_25 (fun q3 H hP hD hS => ?_)
  have hP : va_P G vwCl [(h0, .inr (2, [.int (nI R), .ref q1, .ref q2, .null, .int 0, .int 0])), (q1, .inl (cA 0, R, .inl (fun _ => 0))), (q2, .inl (cA 1, R, .inr (.inl (fun _ => 0)))), (q3, .inl (cA 1, R, .inr (.inl (fun _ => 0))))] H := hP
  have hD : va_D A [(h0, .inr (2, [.int (nI R), .ref q1, .ref q2, .null, .int 0, .int 0])), (q1, .inl (cA 0, R, .inl (fun _ => 0))), (q2, .inl (cA 1, R, .inr (.inl (fun _ => 0)))), (q3, .inl (cA 1, R, .inr (.inl (fun _ => 0))))] := hD
  refine va_putF (D := G) (ci := 2) (v := .ref q3) (ty := .array .long) (C := RX4) (T := TX4) (N := 6) hx hb hts fin_X4 tyX4 tyX4_ok nmX4 hown hK.1 hP hD hS 0 rfl rfl 3 (by decide) (hts _ wi_87) (fun _ h9 => h9) rfl hin rfl (by decide +kernel) rfl rfl (Nat.le_of_ble_eq_true rfl) dX4_init_27 (fun H locs hP hD hS => ?_)
  have hP : va_P G vwCl [(h0, .inr (2, [.int (nI R), .ref q1, .ref q2, .ref q3, .int 0, .int 0])), (q1, .inl (cA 0, R, .inl (fun _ => 0))), (q2, .inl (cA 1, R, .inr (.inl (fun _ => 0)))), (q3, .inl (cA 1, R, .inr (.inl (fun _ => 0))))] H := hP
  have hD : va_D A [(h0, .inr (2, [.int (nI R), .ref q1, .ref q2, .ref q3, .int 0, .int 0])), (q1, .inl (cA 0, R, .inl (fun _ => 0))), (q2, .inl (cA 1, R, .inr (.inl (fun _ => 0)))), (q3, .inl (cA 1, R, .inr (.inl (fun _ => 0))))] := hD
  refine lv_aload_n hx hb dX4_init_30 rfl (lv_at hl 0 rfl) ?_
  refine lv_iconst (v := (0)) hx hb dX4_init_31 (by decide) ?_
  refine va_put (D := G) (ci := 2) (v := .int 0) (ty := .int) (C := RX4) (T := TX4) (N := 6) hx hb hts fin_X4 tyX4 tyX4_ok nmX4 hown hK.1 hP hD hS 0 rfl rfl 4 (by decide) (hts _ wi_88) (fun _ h9 => h9) rfl (by decide +kernel) rfl rfl (Nat.le_of_ble_eq_true rfl) dX4_init_32 (fun H locs hP hD hS => ?_)
  have hP : va_P G vwCl [(h0, .inr (2, [.int (nI R), .ref q1, .ref q2, .ref q3, .int 0, .int 0])), (q1, .inl (cA 0, R, .inl (fun _ => 0))), (q2, .inl (cA 1, R, .inr (.inl (fun _ => 0)))), (q3, .inl (cA 1, R, .inr (.inl (fun _ => 0))))] H := hP
  have hD : va_D A [(h0, .inr (2, [.int (nI R), .ref q1, .ref q2, .ref q3, .int 0, .int 0])), (q1, .inl (cA 0, R, .inl (fun _ => 0))), (q2, .inl (cA 1, R, .inr (.inl (fun _ => 0)))), (q3, .inl (cA 1, R, .inr (.inl (fun _ => 0))))] := hD
  refine lv_aload_n hx hb dX4_init_35 rfl (lv_at hl 0 rfl) ?_
  refine lv_iconst (v := (0)) hx hb dX4_init_36 (by decide) ?_
  refine va_put (D := G) (ci := 2) (v := .int 0) (ty := .boolean) (C := RX4) (T := TX4) (N := 6) hx hb hts fin_X4 tyX4 tyX4_ok nmX4 hown hK.1 hP hD hS 0 rfl rfl 5 (by decide) (hts _ wi_89) (fun _ h9 => h9) rfl (by decide +kernel) (by decide) (by decide) (Nat.le_of_ble_eq_true rfl) dX4_init_37 (fun H locs hP hD hS => ?_)
  have hP : va_P G vwCl [(h0, .inr (2, [.int (nI R), .ref q1, .ref q2, .ref q3, .int 0, .int 0])), (q1, .inl (cA 0, R, .inl (fun _ => 0))), (q2, .inl (cA 1, R, .inr (.inl (fun _ => 0)))), (q3, .inl (cA 1, R, .inr (.inl (fun _ => 0))))] H := hP
  have hD : va_D A [(h0, .inr (2, [.int (nI R), .ref q1, .ref q2, .ref q3, .int 0, .int 0])), (q1, .inl (cA 0, R, .inl (fun _ => 0))), (q2, .inl (cA 1, R, .inr (.inl (fun _ => 0)))), (q3, .inl (cA 1, R, .inr (.inl (fun _ => 0))))] := hD
  refine W.widen (k := 3) (n := 3 * R) (by omega) (by omega) ?_
  exact W.vret hx hb hr (fun t ht hW => ⟨⟨(mk4 h0 q1 q2 q3), rfl, rfl, toT ht hP, hAe ▸ hD⟩, hAe ▸ hS.F ht⟩) hS.2.2 dX4_init_40 hlocks
def rm_X1_init : Room := { frames := 1, cells := 1, slots := 100, locals := 20 }
set_option maxHeartbeats 4000000 in
set_option maxRecDepth 100000 in
theorem m_X1_init (l : Launch) (G : va_G) (cA : Nat → ClassId) (h0 sz : Nat) : MI l yX1_init (.code yX1_init cX1_init 1 none :: wd) (rm_X1_init) G cA [.ref h0] (h0, .inr (0, [.null, .int 0])) sz (fun q => wLine cA q zLine0) 1 100 := by
  refine Met.ofW (cc := cX1_init) (maxL := 1) (ret := none) (by decide) rfl ?_
  intro p e s m args below meth c s₁ B hml hv
  obtain ⟨rfl, hsz, hK, hP, hD0⟩ := hv
  have hx := B.exec
  have hb := B.bytes
  have hr := B.returns
  have hlocks := B.notSynchronized
  have hts : ∀ w ∈ wd, w.before ([.ref h0] : List Value).toArray s = true := fun w h => atoms_spec (ws := (.code yX1_init cX1_init 1 none :: wd)) B.pre w (List.mem_cons_of_mem _ h)
  have hown : s.vm.findClass RX1 = some m.cls := findClass_of_methodNamed B.named
  have hin : meth.name = "<init>" := (name_of_methodNamed B.named B.method).1
  subst hsz
  have hD := hD0.self (sz := s.heap.size)
  show W p l e (rm_X1_init) s m _ below meth c s.heap [] 0 0 (MQ below (qI G (h0, .inr (0, [.null, .int 0])) s.heap.size (fun q => wLine cA q zLine0)) _ s 1 100 (va_A [(h0, .inr (0, [.null, .int 0]))] s.heap.size)) _
  generalize hAe : va_A [(h0, .inr (0, [.null, .int 0]))] s.heap.size = A at hD ⊢
  have hA : ∀ q : Nat, s.heap.size ≤ q → A q := fun q h => by rw [← hAe]; exact Or.inr h
  have hS : va_S A s.heap s.heap [] := va_S.rf
  have hl := lv_entry ([.ref h0]) (n := 1) (Nat.le_of_ble_eq_true rfl)
  rw [lg_entry_eq]
  generalize (lg_sl ([.ref h0]) ++ List.replicate (1 - (lg_sl ([.ref h0])).length) Slot.unset).toArray = ls at hl ⊢
  have hl : lv_has ls 1 [(0, .ref h0)] := hl
  refine lv_aload_n hx hb dX1_init_0 rfl (lv_at hl 0 rfl) ?_
  refine W.objInit hx hb hown (hts _ wo_X1) (hts _ wo_inst) (hts _ wo_code) rfl (by rw [hml]; exact hl.1) rfl dX1_init_1 (Nat.le_of_ble_eq_true rfl) (Nat.le_of_ble_eq_true rfl) ?_
  refine W.eq (g2 := F0 m 4 ls []) rfl ?_
  refine lv_aload_n hx hb dX1_init_4 rfl (lv_at hl 0 rfl) ?_
  refine lv_bipush (v := nI 100) hx hb dX1_init_5 (by decide) ?_
  refine k_newa (ty := .char) (a0 := (100, .inl (fun _ => 0))) 2 hx hb hts wi_120 rfl rfl (fun _ h => h) hK.1 hP hD hS hA (fun _ => rfl) (by omega) (by simp only [componentBytes]; omega) (by show _ ≤ 1; omega) (by show _ ≤ 100; omega) dX1_init_7 (fun q1 H hP hD hS => ?_)
  have hP : va_P G vwCl [(h0, .inr (0, [.null, .int 0])), (q1, .inl (cA 2, 100, .inl (fun _ => 0)))] H := hP
  have hD : va_D A [(h0, .inr (0, [.null, .int 0])), (q1, .inl (cA 2, 100, .inl (fun _ => 0)))] := hD
  refine va_putF (D := G) (ci := 0) (v := .ref q1) (ty := .array .char) (C := RX1) (T := TX1) (N := 2) hx hb hts fin_X1 tyX1 tyX1_ok nmX1 hown hK.1 hP hD hS 0 rfl rfl 0 (by decide) (hts _ wi_111) (fun _ h9 => h9) rfl hin rfl (by decide +kernel) rfl rfl (Nat.le_of_ble_eq_true rfl) dX1_init_9 (fun H locs hP hD hS => ?_)
  have hP : va_P G vwCl [(h0, .inr (0, [.ref q1, .int 0])), (q1, .inl (cA 2, 100, .inl (fun _ => 0)))] H := hP
  have hD : va_D A [(h0, .inr (0, [.ref q1, .int 0])), (q1, .inl (cA 2, 100, .inl (fun _ => 0)))] := hD
  refine lv_aload_n hx hb dX1_init_12 rfl (lv_at hl 0 rfl) ?_
  refine lv_iconst (v := (0)) hx hb dX1_init_13 (by decide) ?_
  refine va_put (D := G) (ci := 0) (v := .int 0) (ty := .int) (C := RX1) (T := TX1) (N := 2) hx hb hts fin_X1 tyX1 tyX1_ok nmX1 hown hK.1 hP hD hS 0 rfl rfl 1 (by decide) (hts _ wi_113) (fun _ h9 => h9) rfl (by decide +kernel) rfl rfl (Nat.le_of_ble_eq_true rfl) dX1_init_14 (fun H locs hP hD hS => ?_)
  have hP : va_P G vwCl [(h0, .inr (0, [.ref q1, .int 0])), (q1, .inl (cA 2, 100, .inl (fun _ => 0)))] H := hP
  have hD : va_D A [(h0, .inr (0, [.ref q1, .int 0])), (q1, .inl (cA 2, 100, .inl (fun _ => 0)))] := hD
  refine W.widen (k := 1) (n := 100) (by omega) (by omega) ?_
  exact W.vret hx hb hr (fun t ht hW => ⟨⟨(mk2 h0 q1), rfl, rfl, toT ht hP, hAe ▸ hD⟩, hAe ▸ hS.F ht⟩) hS.2.2 dX1_init_17 hlocks
def rm_X5_init : Room := { frames := 1, cells := 1, slots := 1200, locals := 20 }
set_option maxHeartbeats 4000000 in
set_option maxRecDepth 100000 in
theorem m_X5_init (l : Launch) (G : va_G) (cA : Nat → ClassId) (h0 sz : Nat) : MI l yX5_init (.code yX5_init cX5_init 1 none :: wd) (rm_X5_init) G cA [.ref h0] (h0, .inr (3, [.null, .int 0])) sz (fun q => wWr cA q zWr0) 1 1200 := by
  refine Met.ofW (cc := cX5_init) (maxL := 1) (ret := none) (by decide) rfl ?_
  intro p e s m args below meth c s₁ B hml hv
  obtain ⟨rfl, hsz, hK, hP, hD0⟩ := hv
  have hx := B.exec
  have hb := B.bytes
  have hr := B.returns
  have hlocks := B.notSynchronized
  have hts : ∀ w ∈ wd, w.before ([.ref h0] : List Value).toArray s = true := fun w h => atoms_spec (ws := (.code yX5_init cX5_init 1 none :: wd)) B.pre w (List.mem_cons_of_mem _ h)
  have hown : s.vm.findClass RX5 = some m.cls := findClass_of_methodNamed B.named
  have hin : meth.name = "<init>" := (name_of_methodNamed B.named B.method).1
  subst hsz
  have hD := hD0.self (sz := s.heap.size)
  show W p l e (rm_X5_init) s m _ below meth c s.heap [] 0 0 (MQ below (qI G (h0, .inr (3, [.null, .int 0])) s.heap.size (fun q => wWr cA q zWr0)) _ s 1 1200 (va_A [(h0, .inr (3, [.null, .int 0]))] s.heap.size)) _
  generalize hAe : va_A [(h0, .inr (3, [.null, .int 0]))] s.heap.size = A at hD ⊢
  have hA : ∀ q : Nat, s.heap.size ≤ q → A q := fun q h => by rw [← hAe]; exact Or.inr h
  have hS : va_S A s.heap s.heap [] := va_S.rf
  have hl := lv_entry ([.ref h0]) (n := 1) (Nat.le_of_ble_eq_true rfl)
  rw [lg_entry_eq]
  generalize (lg_sl ([.ref h0]) ++ List.replicate (1 - (lg_sl ([.ref h0])).length) Slot.unset).toArray = ls at hl ⊢
  have hl : lv_has ls 1 [(0, .ref h0)] := hl
  refine lv_aload_n hx hb dX5_init_0 rfl (lv_at hl 0 rfl) ?_
  refine W.objInit hx hb hown (hts _ wo_X5) (hts _ wo_inst) (hts _ wo_code) rfl (by rw [hml]; exact hl.1) rfl dX5_init_1 (Nat.le_of_ble_eq_true rfl) (Nat.le_of_ble_eq_true rfl) ?_
  refine W.eq (g2 := F0 m 4 ls []) rfl ?_
  refine lv_aload_n hx hb dX5_init_4 rfl (lv_at hl 0 rfl) ?_
  refine lv_sipush (v := nI 1200) hx hb dX5_init_5 (by decide) ?_
  refine k_newa (ty := .char) (a0 := (1200, .inl (fun _ => 0))) 2 hx hb hts wi_120 rfl rfl (fun _ h => h) hK.1 hP hD hS hA (fun _ => rfl) (by omega) (by simp only [componentBytes]; omega) (by show _ ≤ 1; omega) (by show _ ≤ 1200; omega) dX5_init_8 (fun q1 H hP hD hS => ?_)
  have hP : va_P G vwCl [(h0, .inr (3, [.null, .int 0])), (q1, .inl (cA 2, 1200, .inl (fun _ => 0)))] H := hP
  have hD : va_D A [(h0, .inr (3, [.null, .int 0])), (q1, .inl (cA 2, 1200, .inl (fun _ => 0)))] := hD
  refine va_putF (D := G) (ci := 3) (v := .ref q1) (ty := .array .char) (C := RX5) (T := TX5) (N := 2) hx hb hts fin_X5 tyX5 tyX5_ok nmX5 hown hK.1 hP hD hS 0 rfl rfl 0 (by decide) (hts _ wi_164) (fun _ h9 => h9) rfl hin rfl (by decide +kernel) rfl rfl (Nat.le_of_ble_eq_true rfl) dX5_init_10 (fun H locs hP hD hS => ?_)
  have hP : va_P G vwCl [(h0, .inr (3, [.ref q1, .int 0])), (q1, .inl (cA 2, 1200, .inl (fun _ => 0)))] H := hP
  have hD : va_D A [(h0, .inr (3, [.ref q1, .int 0])), (q1, .inl (cA 2, 1200, .inl (fun _ => 0)))] := hD
  refine lv_aload_n hx hb dX5_init_13 rfl (lv_at hl 0 rfl) ?_
  refine lv_iconst (v := (0)) hx hb dX5_init_14 (by decide) ?_
  refine va_put (D := G) (ci := 3) (v := .int 0) (ty := .int) (C := RX5) (T := TX5) (N := 2) hx hb hts fin_X5 tyX5 tyX5_ok nmX5 hown hK.1 hP hD hS 0 rfl rfl 1 (by decide) (hts _ wi_165) (fun _ h9 => h9) rfl (by decide +kernel) rfl rfl (Nat.le_of_ble_eq_true rfl) dX5_init_15 (fun H locs hP hD hS => ?_)
  have hP : va_P G vwCl [(h0, .inr (3, [.ref q1, .int 0])), (q1, .inl (cA 2, 1200, .inl (fun _ => 0)))] H := hP
  have hD : va_D A [(h0, .inr (3, [.ref q1, .int 0])), (q1, .inl (cA 2, 1200, .inl (fun _ => 0)))] := hD
  refine W.widen (k := 1) (n := 1200) (by omega) (by omega) ?_
  exact W.vret hx hb hr (fun t ht hW => ⟨⟨(mk2 h0 q1), rfl, rfl, toT ht hP, hAe ▸ hD⟩, hAe ▸ hS.F ht⟩) hS.2.2 dX5_init_18 hlocks
def rm_X3_init : Room := { frames := 1, cells := 0, slots := 0, locals := 20 }
set_option maxHeartbeats 4000000 in
set_option maxRecDepth 100000 in
theorem m_X3_init (l : Launch) (G : va_G) (cA : Nat → ClassId) (h0 sz : Nat) (ql qs : Nat → Nat) : MI l yX3_init (.code yX3_init cX3_init 3 none :: wd) (rm_X3_init) G cA [.ref h0, .ref (ql 0), .ref (qs 0)] (h0, .inr (1, [.null, .null, .int 0, .int 0, .int 0, .long 0, .long 0, .int 0, .int 0, .int 0])) sz (fun q => wRd q ql qs zRd0) 0 0 := by
  refine Met.ofW (cc := cX3_init) (maxL := 3) (ret := none) (by decide) rfl ?_
  intro p e s m args below meth c s₁ B hml hv
  obtain ⟨rfl, hsz, hK, hP, hD0⟩ := hv
  have hx := B.exec
  have hb := B.bytes
  have hr := B.returns
  have hlocks := B.notSynchronized
  have hts : ∀ w ∈ wd, w.before ([.ref h0, .ref (ql 0), .ref (qs 0)] : List Value).toArray s = true := fun w h => atoms_spec (ws := (.code yX3_init cX3_init 3 none :: wd)) B.pre w (List.mem_cons_of_mem _ h)
  have hown : s.vm.findClass RX3 = some m.cls := findClass_of_methodNamed B.named
  have hin : meth.name = "<init>" := (name_of_methodNamed B.named B.method).1
  subst hsz
  have hD := hD0.self (sz := s.heap.size)
  show W p l e (rm_X3_init) s m _ below meth c s.heap [] 0 0 (MQ below (qI G (h0, .inr (1, [.null, .null, .int 0, .int 0, .int 0, .long 0, .long 0, .int 0, .int 0, .int 0])) s.heap.size (fun q => wRd q ql qs zRd0)) _ s 0 0 (va_A [(h0, .inr (1, [.null, .null, .int 0, .int 0, .int 0, .long 0, .long 0, .int 0, .int 0, .int 0]))] s.heap.size)) _
  generalize hAe : va_A [(h0, .inr (1, [.null, .null, .int 0, .int 0, .int 0, .long 0, .long 0, .int 0, .int 0, .int 0]))] s.heap.size = A at hD ⊢
  have hA : ∀ q : Nat, s.heap.size ≤ q → A q := fun q h => by rw [← hAe]; exact Or.inr h
  have hS : va_S A s.heap s.heap [] := va_S.rf
  have hl := lv_entry ([.ref h0, .ref (ql 0), .ref (qs 0)]) (n := 3) (Nat.le_of_ble_eq_true rfl)
  rw [lg_entry_eq]
  generalize (lg_sl ([.ref h0, .ref (ql 0), .ref (qs 0)]) ++ List.replicate (3 - (lg_sl ([.ref h0, .ref (ql 0), .ref (qs 0)])).length) Slot.unset).toArray = ls at hl ⊢
  have hl : lv_has ls 3 [(0, .ref h0), (1, .ref (ql 0)), (2, .ref (qs 0))] := hl
  refine lv_aload_n hx hb dX3_init_0 rfl (lv_at hl 0 rfl) ?_
  refine W.objInit hx hb hown (hts _ wo_X3) (hts _ wo_inst) (hts _ wo_code) rfl (by rw [hml]; exact hl.1) rfl dX3_init_1 (Nat.le_of_ble_eq_true rfl) (Nat.le_of_ble_eq_true rfl) ?_
  refine W.eq (g2 := F0 m 4 ls []) rfl ?_
  refine lv_aload_n hx hb dX3_init_4 rfl (lv_at hl 0 rfl) ?_
  refine lv_iconst (v := (0)) hx hb dX3_init_5 (by decide) ?_
  refine va_put (D := G) (ci := 1) (v := .int 0) (ty := .int) (C := RX3) (T := TX3) (N := 10) hx hb hts fin_X3 tyX3 tyX3_ok nmX3 hown hK.1 hP hD hS 0 rfl rfl 2 (by decide) (hts _ wi_129) (fun _ h9 => h9) rfl (by decide +kernel) rfl rfl (Nat.le_of_ble_eq_true rfl) dX3_init_6 (fun H locs hP hD hS => ?_)
  have hP : va_P G vwCl [(h0, .inr (1, [.null, .null, .int 0, .int 0, .int 0, .long 0, .long 0, .int 0, .int 0, .int 0]))] H := hP
  have hD : va_D A [(h0, .inr (1, [.null, .null, .int 0, .int 0, .int 0, .long 0, .long 0, .int 0, .int 0, .int 0]))] := hD
  refine lv_aload_n hx hb dX3_init_9 rfl (lv_at hl 0 rfl) ?_
  refine lv_iconst (v := (0)) hx hb dX3_init_10 (by decide) ?_
  refine va_put (D := G) (ci := 1) (v := .int 0) (ty := .int) (C := RX3) (T := TX3) (N := 10) hx hb hts fin_X3 tyX3 tyX3_ok nmX3 hown hK.1 hP hD hS 0 rfl rfl 3 (by decide) (hts _ wi_130) (fun _ h9 => h9) rfl (by decide +kernel) rfl rfl (Nat.le_of_ble_eq_true rfl) dX3_init_11 (fun H locs hP hD hS => ?_)
  have hP : va_P G vwCl [(h0, .inr (1, [.null, .null, .int 0, .int 0, .int 0, .long 0, .long 0, .int 0, .int 0, .int 0]))] H := hP
  have hD : va_D A [(h0, .inr (1, [.null, .null, .int 0, .int 0, .int 0, .long 0, .long 0, .int 0, .int 0, .int 0]))] := hD
  refine lv_aload_n hx hb dX3_init_14 rfl (lv_at hl 0 rfl) ?_
  refine lv_iconst (v := (-1)) hx hb dX3_init_15 (by decide) ?_
  refine va_put (D := G) (ci := 1) (v := .int (-1)) (ty := .int) (C := RX3) (T := TX3) (N := 10) hx hb hts fin_X3 tyX3 tyX3_ok nmX3 hown hK.1 hP hD hS 0 rfl rfl 4 (by decide) (hts _ wi_131) (fun _ h9 => h9) rfl (by decide +kernel) rfl rfl (Nat.le_of_ble_eq_true rfl) dX3_init_16 (fun H locs hP hD hS => ?_)
  have hP : va_P G vwCl [(h0, .inr (1, [.null, .null, .int 0, .int 0, .int (-1), .long 0, .long 0, .int 0, .int 0, .int 0]))] H := hP
  have hD : va_D A [(h0, .inr (1, [.null, .null, .int 0, .int 0, .int (-1), .long 0, .long 0, .int 0, .int 0, .int 0]))] := hD
  refine lv_aload_n hx hb dX3_init_19 rfl (lv_at hl 0 rfl) ?_
  refine lv_lconst (v := (0)) hx hb dX3_init_20 (by decide) ?_
  refine va_put (D := G) (ci := 1) (v := .long 0) (ty := .long) (C := RX3) (T := TX3) (N := 10) hx hb hts fin_X3 tyX3 tyX3_ok nmX3 hown hK.1 hP hD hS 0 rfl rfl 5 (by decide) (hts _ wi_132) (fun _ h9 => h9) rfl (by decide +kernel) rfl rfl (Nat.le_of_ble_eq_true rfl) dX3_init_21 (fun H locs hP hD hS => ?_)
  have hP : va_P G vwCl [(h0, .inr (1, [.null, .null, .int 0, .int 0, .int (-1), .long 0, .long 0, .int 0, .int 0, .int 0]))] H := hP
  have hD : va_D A [(h0, .inr (1, [.null, .null, .int 0, .int 0, .int (-1), .long 0, .long 0, .int 0, .int 0, .int 0]))] := hD
  refine lv_aload_n hx hb dX3_init_24 rfl (lv_at hl 0 rfl) ?_
  refine lv_lconst (v := (1)) hx hb dX3_init_25 (by decide) ?_
  refine va_put (D := G) (ci := 1) (v := .long 1) (ty := .long) (C := RX3) (T := TX3) (N := 10) hx hb hts fin_X3 tyX3 tyX3_ok nmX3 hown hK.1 hP hD hS 0 rfl rfl 6 (by decide) (hts _ wi_133) (fun _ h9 => h9) rfl (by decide +kernel) rfl rfl (Nat.le_of_ble_eq_true rfl) dX3_init_26 (fun H locs hP hD hS => ?_)
  have hP : va_P G vwCl [(h0, .inr (1, [.null, .null, .int 0, .int 0, .int (-1), .long 0, .long 1, .int 0, .int 0, .int 0]))] H := hP
  have hD : va_D A [(h0, .inr (1, [.null, .null, .int 0, .int 0, .int (-1), .long 0, .long 1, .int 0, .int 0, .int 0]))] := hD
  refine lv_aload_n hx hb dX3_init_29 rfl (lv_at hl 0 rfl) ?_
  refine lv_iconst (v := (0)) hx hb dX3_init_30 (by decide) ?_
  refine va_put (D := G) (ci := 1) (v := .int 0) (ty := .int) (C := RX3) (T := TX3) (N := 10) hx hb hts fin_X3 tyX3 tyX3_ok nmX3 hown hK.1 hP hD hS 0 rfl rfl 7 (by decide) (hts _ wi_134) (fun _ h9 => h9) rfl (by decide +kernel) rfl rfl (Nat.le_of_ble_eq_true rfl) dX3_init_31 (fun H locs hP hD hS => ?_)
  have hP : va_P G vwCl [(h0, .inr (1, [.null, .null, .int 0, .int 0, .int (-1), .long 0, .long 1, .int 0, .int 0, .int 0]))] H := hP
  have hD : va_D A [(h0, .inr (1, [.null, .null, .int 0, .int 0, .int (-1), .long 0, .long 1, .int 0, .int 0, .int 0]))] := hD
  refine lv_aload_n hx hb dX3_init_34 rfl (lv_at hl 0 rfl) ?_
  refine lv_iconst (v := (0)) hx hb dX3_init_35 (by decide) ?_
  refine va_put (D := G) (ci := 1) (v := .int 0) (ty := .int) (C := RX3) (T := TX3) (N := 10) hx hb hts fin_X3 tyX3 tyX3_ok nmX3 hown hK.1 hP hD hS 0 rfl rfl 8 (by decide) (hts _ wi_135) (fun _ h9 => h9) rfl (by decide +kernel) rfl rfl (Nat.le_of_ble_eq_true rfl) dX3_init_36 (fun H locs hP hD hS => ?_)
  have hP : va_P G vwCl [(h0, .inr (1, [.null, .null, .int 0, .int 0, .int (-1), .long 0, .long 1, .int 0, .int 0, .int 0]))] H := hP
  have hD : va_D A [(h0, .inr (1, [.null, .null, .int 0, .int 0, .int (-1), .long 0, .long 1, .int 0, .int 0, .int 0]))] := hD
  refine lv_aload_n hx hb dX3_init_39 rfl (lv_at hl 0 rfl) ?_
  refine lv_iconst (v := (0)) hx hb dX3_init_40 (by decide) ?_
  refine va_put (D := G) (ci := 1) (v := .int 0) (ty := .int) (C := RX3) (T := TX3) (N := 10) hx hb hts fin_X3 tyX3 tyX3_ok nmX3 hown hK.1 hP hD hS 0 rfl rfl 9 (by decide) (hts _ wi_136) (fun _ h9 => h9) rfl (by decide +kernel) rfl rfl (Nat.le_of_ble_eq_true rfl) dX3_init_41 (fun H locs hP hD hS => ?_)
  have hP : va_P G vwCl [(h0, .inr (1, [.null, .null, .int 0, .int 0, .int (-1), .long 0, .long 1, .int 0, .int 0, .int 0]))] H := hP
  have hD : va_D A [(h0, .inr (1, [.null, .null, .int 0, .int 0, .int (-1), .long 0, .long 1, .int 0, .int 0, .int 0]))] := hD
  refine lv_aload_n hx hb dX3_init_44 rfl (lv_at hl 0 rfl) ?_
  refine lv_aload_n hx hb dX3_init_45 rfl (lv_at hl 1 rfl) ?_
  refine va_putF (D := G) (ci := 1) (v := .ref (ql 0)) (ty := .object "AntiDesk$Line") (C := RX3) (T := TX3) (N := 10) hx hb hts fin_X3 tyX3 tyX3_ok nmX3 hown hK.1 hP hD hS 0 rfl rfl 0 (by decide) (hts _ wi_127) (fun _ h9 => h9) rfl hin rfl (by decide +kernel) rfl rfl (Nat.le_of_ble_eq_true rfl) dX3_init_46 (fun H locs hP hD hS => ?_)
  have hP : va_P G vwCl [(h0, .inr (1, [.ref (ql 0), .null, .int 0, .int 0, .int (-1), .long 0, .long 1, .int 0, .int 0, .int 0]))] H := hP
  have hD : va_D A [(h0, .inr (1, [.ref (ql 0), .null, .int 0, .int 0, .int (-1), .long 0, .long 1, .int 0, .int 0, .int 0]))] := hD
  refine lv_aload_n hx hb dX3_init_49 rfl (lv_at hl 0 rfl) ?_
  refine lv_aload_n hx hb dX3_init_50 rfl (lv_at hl 2 rfl) ?_
  refine va_putF (D := G) (ci := 1) (v := .ref (qs 0)) (ty := .object "AntiDesk$Sum") (C := RX3) (T := TX3) (N := 10) hx hb hts fin_X3 tyX3 tyX3_ok nmX3 hown hK.1 hP hD hS 0 rfl rfl 1 (by decide) (hts _ wi_128) (fun _ h9 => h9) rfl hin rfl (by decide +kernel) rfl rfl (Nat.le_of_ble_eq_true rfl) dX3_init_51 (fun H locs hP hD hS => ?_)
  have hP : va_P G vwCl [(h0, .inr (1, [.ref (ql 0), .ref (qs 0), .int 0, .int 0, .int (-1), .long 0, .long 1, .int 0, .int 0, .int 0]))] H := hP
  have hD : va_D A [(h0, .inr (1, [.ref (ql 0), .ref (qs 0), .int 0, .int 0, .int (-1), .long 0, .long 1, .int 0, .int 0, .int 0]))] := hD
  refine W.widen (k := 0) (n := 0) (by omega) (by omega) ?_
  exact W.vret hx hb hr (fun t ht hW => ⟨⟨(mk1 h0), rfl, rfl, toT ht hP, hAe ▸ hD⟩, hAe ▸ hS.F ht⟩) hS.2.2 dX3_init_54 hlocks
def rm_X7_init : Room := { frames := 1, cells := 4, slots := 24500, locals := 20 }
set_option maxHeartbeats 4000000 in
set_option maxRecDepth 100000 in
theorem m_X7_init (l : Launch) (G : va_G) (cA : Nat → ClassId) (h0 sz : Nat) : MI l yX7_init (.code yX7_init cX7_init 2 none :: wd) (rm_X7_init) G cA [.ref h0] (h0, .inr (5, [.int 0, .null, .int 0, .null, .int 0, .int 0, .null, .null, .int 0, .int 0, .int 0, .long 0, .long 0])) sz (fun q => wMd cA q (zMd0 11500)) 4 24500 := by
  refine Met.ofW (cc := cX7_init) (maxL := 2) (ret := none) (by decide) rfl ?_
  intro p e s m args below meth c s₁ B hml hv
  obtain ⟨rfl, hsz, hK, hP, hD0⟩ := hv
  have hx := B.exec
  have hb := B.bytes
  have hr := B.returns
  have hlocks := B.notSynchronized
  have hts : ∀ w ∈ wd, w.before ([.ref h0] : List Value).toArray s = true := fun w h => atoms_spec (ws := (.code yX7_init cX7_init 2 none :: wd)) B.pre w (List.mem_cons_of_mem _ h)
  have hown : s.vm.findClass RX7 = some m.cls := findClass_of_methodNamed B.named
  have hin : meth.name = "<init>" := (name_of_methodNamed B.named B.method).1
  subst hsz
  have hD := hD0.self (sz := s.heap.size)
  show W p l e (rm_X7_init) s m _ below meth c s.heap [] 0 0 (MQ below (qI G (h0, .inr (5, [.int 0, .null, .int 0, .null, .int 0, .int 0, .null, .null, .int 0, .int 0, .int 0, .long 0, .long 0])) s.heap.size (fun q => wMd cA q (zMd0 11500))) _ s 4 24500 (va_A [(h0, .inr (5, [.int 0, .null, .int 0, .null, .int 0, .int 0, .null, .null, .int 0, .int 0, .int 0, .long 0, .long 0]))] s.heap.size)) _
  generalize hAe : va_A [(h0, .inr (5, [.int 0, .null, .int 0, .null, .int 0, .int 0, .null, .null, .int 0, .int 0, .int 0, .long 0, .long 0]))] s.heap.size = A at hD ⊢
  have hA : ∀ q : Nat, s.heap.size ≤ q → A q := fun q h => by rw [← hAe]; exact Or.inr h
  have hS : va_S A s.heap s.heap [] := va_S.rf
  have hl := lv_entry ([.ref h0]) (n := 2) (Nat.le_of_ble_eq_true rfl)
  rw [lg_entry_eq]
  generalize (lg_sl ([.ref h0]) ++ List.replicate (2 - (lg_sl ([.ref h0])).length) Slot.unset).toArray = ls at hl ⊢
  have hl : lv_has ls 2 [(0, .ref h0)] := hl
  refine lv_aload_n hx hb dX7_init_0 rfl (lv_at hl 0 rfl) ?_
  refine W.objInit hx hb hown (hts _ wo_X7) (hts _ wo_inst) (hts _ wo_code) rfl (by rw [hml]; exact hl.1) rfl dX7_init_1 (Nat.le_of_ble_eq_true rfl) (Nat.le_of_ble_eq_true rfl) ?_
  refine W.eq (g2 := F0 m 4 ls []) rfl ?_
  refine lv_aload_n hx hb dX7_init_4 rfl (lv_at hl 0 rfl) ?_
  refine lv_bipush (v := nI 100) hx hb dX7_init_5 (by decide) ?_
  refine k_newa (ty := .char) (a0 := (100, .inl (fun _ => 0))) 2 hx hb hts wi_120 rfl rfl (fun _ h => h) hK.1 hP hD hS hA (fun _ => rfl) (by omega) (by simp only [componentBytes]; omega) (by show _ ≤ 4; omega) (by show _ ≤ 24500; omega) dX7_init_7 (fun q1 H hP hD hS => ?_)
  have hP : va_P G vwCl [(h0, .inr (5, [.int 0, .null, .int 0, .null, .int 0, .int 0, .null, .null, .int 0, .int 0, .int 0, .long 0, .long 0])), (q1, .inl (cA 2, 100, .inl (fun _ => 0)))] H := hP
  have hD : va_D A [(h0, .inr (5, [.int 0, .null, .int 0, .null, .int 0, .int 0, .null, .null, .int 0, .int 0, .int 0, .long 0, .long 0])), (q1, .inl (cA 2, 100, .inl (fun _ => 0)))] := hD
  refine va_putF (D := G) (ci := 5) (v := .ref q1) (ty := .array .char) (C := RX7) (T := TX7) (N := 13) hx hb hts fin_X7 tyX7 tyX7_ok nmX7 hown hK.1 hP hD hS 0 rfl rfl 1 (by decide) (hts _ wi_672) (fun _ h9 => h9) rfl hin rfl (by decide +kernel) rfl rfl (Nat.le_of_ble_eq_true rfl) dX7_init_9 (fun H locs hP hD hS => ?_)
  have hP : va_P G vwCl [(h0, .inr (5, [.int 0, .ref q1, .int 0, .null, .int 0, .int 0, .null, .null, .int 0, .int 0, .int 0, .long 0, .long 0])), (q1, .inl (cA 2, 100, .inl (fun _ => 0)))] H := hP
  have hD : va_D A [(h0, .inr (5, [.int 0, .ref q1, .int 0, .null, .int 0, .int 0, .null, .null, .int 0, .int 0, .int 0, .long 0, .long 0])), (q1, .inl (cA 2, 100, .inl (fun _ => 0)))] := hD
  refine lv_aload_n hx hb dX7_init_12 rfl (lv_at hl 0 rfl) ?_
  refine lv_sipush (v := nI 1400) hx hb dX7_init_13 (by decide) ?_
  refine k_newa (ty := .char) (a0 := (1400, .inl (fun _ => 0))) 2 hx hb hts wi_120 rfl rfl (fun _ h => h) hK.1 hP hD hS hA (fun _ => rfl) (by omega) (by simp only [componentBytes]; omega) (by show _ ≤ 4; omega) (by show _ ≤ 24500; omega) dX7_init_16 (fun q2 H hP hD hS => ?_)
  have hP : va_P G vwCl [(h0, .inr (5, [.int 0, .ref q1, .int 0, .null, .int 0, .int 0, .null, .null, .int 0, .int 0, .int 0, .long 0, .long 0])), (q1, .inl (cA 2, 100, .inl (fun _ => 0))), (q2, .inl (cA 2, 1400, .inl (fun _ => 0)))] H := hP
  have hD : va_D A [(h0, .inr (5, [.int 0, .ref q1, .int 0, .null, .int 0, .int 0, .null, .null, .int 0, .int 0, .int 0, .long 0, .long 0])), (q1, .inl (cA 2, 100, .inl (fun _ => 0))), (q2, .inl (cA 2, 1400, .inl (fun _ => 0)))] := hD
  refine va_putF (D := G) (ci := 5) (v := .ref q2) (ty := .array .char) (C := RX7) (T := TX7) (N := 13) hx hb hts fin_X7 tyX7 tyX7_ok nmX7 hown hK.1 hP hD hS 0 rfl rfl 3 (by decide) (hts _ wi_674) (fun _ h9 => h9) rfl hin rfl (by decide +kernel) rfl rfl (Nat.le_of_ble_eq_true rfl) dX7_init_18 (fun H locs hP hD hS => ?_)
  have hP : va_P G vwCl [(h0, .inr (5, [.int 0, .ref q1, .int 0, .ref q2, .int 0, .int 0, .null, .null, .int 0, .int 0, .int 0, .long 0, .long 0])), (q1, .inl (cA 2, 100, .inl (fun _ => 0))), (q2, .inl (cA 2, 1400, .inl (fun _ => 0)))] H := hP
  have hD : va_D A [(h0, .inr (5, [.int 0, .ref q1, .int 0, .ref q2, .int 0, .int 0, .null, .null, .int 0, .int 0, .int 0, .long 0, .long 0])), (q1, .inl (cA 2, 100, .inl (fun _ => 0))), (q2, .inl (cA 2, 1400, .inl (fun _ => 0)))] := hD
  refine lv_aload_n hx hb dX7_init_21 rfl (lv_at hl 0 rfl) ?_
  refine lv_iconst (v := (-1)) hx hb dX7_init_22 (by decide) ?_
  refine va_put (D := G) (ci := 5) (v := .int (-1)) (ty := .int) (C := RX7) (T := TX7) (N := 13) hx hb hts fin_X7 tyX7 tyX7_ok nmX7 hown hK.1 hP hD hS 0 rfl rfl 5 (by decide) (hts _ wi_676) (fun _ h9 => h9) rfl (by decide +kernel) rfl rfl (Nat.le_of_ble_eq_true rfl) dX7_init_23 (fun H locs hP hD hS => ?_)
  have hP : va_P G vwCl [(h0, .inr (5, [.int 0, .ref q1, .int 0, .ref q2, .int 0, .int (-1), .null, .null, .int 0, .int 0, .int 0, .long 0, .long 0])), (q1, .inl (cA 2, 100, .inl (fun _ => 0))), (q2, .inl (cA 2, 1400, .inl (fun _ => 0)))] H := hP
  have hD : va_D A [(h0, .inr (5, [.int 0, .ref q1, .int 0, .ref q2, .int 0, .int (-1), .null, .null, .int 0, .int 0, .int 0, .long 0, .long 0])), (q1, .inl (cA 2, 100, .inl (fun _ => 0))), (q2, .inl (cA 2, 1400, .inl (fun _ => 0)))] := hD
  refine lv_aload_n hx hb dX7_init_26 rfl (lv_at hl 0 rfl) ?_
  refine lv_sipush (v := nI 11500) hx hb dX7_init_27 (by decide) ?_
  refine k_newa (ty := .long) (a0 := (11500, .inr (.inl (fun _ => 0)))) 1 hx hb hts wi_104 rfl rfl (fun _ h => h) hK.1 hP hD hS hA (fun _ => rfl) (by omega) (by simp only [componentBytes]; omega) (by show _ ≤ 4; omega) (by show _ ≤ 24500; omega) dX7_init_30 (fun q3 H hP hD hS => ?_)
  have hP : va_P G vwCl [(h0, .inr (5, [.int 0, .ref q1, .int 0, .ref q2, .int 0, .int (-1), .null, .null, .int 0, .int 0, .int 0, .long 0, .long 0])), (q1, .inl (cA 2, 100, .inl (fun _ => 0))), (q2, .inl (cA 2, 1400, .inl (fun _ => 0))), (q3, .inl (cA 1, 11500, .inr (.inl (fun _ => 0))))] H := hP
  have hD : va_D A [(h0, .inr (5, [.int 0, .ref q1, .int 0, .ref q2, .int 0, .int (-1), .null, .null, .int 0, .int 0, .int 0, .long 0, .long 0])), (q1, .inl (cA 2, 100, .inl (fun _ => 0))), (q2, .inl (cA 2, 1400, .inl (fun _ => 0))), (q3, .inl (cA 1, 11500, .inr (.inl (fun _ => 0))))] := hD
  refine va_putF (D := G) (ci := 5) (v := .ref q3) (ty := .array .long) (C := RX7) (T := TX7) (N := 13) hx hb hts fin_X7 tyX7 tyX7_ok nmX7 hown hK.1 hP hD hS 0 rfl rfl 6 (by decide) (hts _ wi_677) (fun _ h9 => h9) rfl hin rfl (by decide +kernel) rfl rfl (Nat.le_of_ble_eq_true rfl) dX7_init_32 (fun H locs hP hD hS => ?_)
  have hP : va_P G vwCl [(h0, .inr (5, [.int 0, .ref q1, .int 0, .ref q2, .int 0, .int (-1), .ref q3, .null, .int 0, .int 0, .int 0, .long 0, .long 0])), (q1, .inl (cA 2, 100, .inl (fun _ => 0))), (q2, .inl (cA 2, 1400, .inl (fun _ => 0))), (q3, .inl (cA 1, 11500, .inr (.inl (fun _ => 0))))] H := hP
  have hD : va_D A [(h0, .inr (5, [.int 0, .ref q1, .int 0, .ref q2, .int 0, .int (-1), .ref q3, .null, .int 0, .int 0, .int 0, .long 0, .long 0])), (q1, .inl (cA 2, 100, .inl (fun _ => 0))), (q2, .inl (cA 2, 1400, .inl (fun _ => 0))), (q3, .inl (cA 1, 11500, .inr (.inl (fun _ => 0))))] := hD
  refine lv_aload_n hx hb dX7_init_35 rfl (lv_at hl 0 rfl) ?_
  refine lv_sipush (v := nI 11500) hx hb dX7_init_36 (by decide) ?_
  refine k_newa (ty := .long) (a0 := (11500, .inr (.inl (fun _ => 0)))) 1 hx hb hts wi_104 rfl rfl (fun _ h => h) hK.1 hP hD hS hA (fun _ => rfl) (by omega) (by simp only [componentBytes]; omega) (by show _ ≤ 4; omega) (by show _ ≤ 24500; omega) dX7_init_39 (fun q4 H hP hD hS => ?_)
  have hP : va_P G vwCl [(h0, .inr (5, [.int 0, .ref q1, .int 0, .ref q2, .int 0, .int (-1), .ref q3, .null, .int 0, .int 0, .int 0, .long 0, .long 0])), (q1, .inl (cA 2, 100, .inl (fun _ => 0))), (q2, .inl (cA 2, 1400, .inl (fun _ => 0))), (q3, .inl (cA 1, 11500, .inr (.inl (fun _ => 0)))), (q4, .inl (cA 1, 11500, .inr (.inl (fun _ => 0))))] H := hP
  have hD : va_D A [(h0, .inr (5, [.int 0, .ref q1, .int 0, .ref q2, .int 0, .int (-1), .ref q3, .null, .int 0, .int 0, .int 0, .long 0, .long 0])), (q1, .inl (cA 2, 100, .inl (fun _ => 0))), (q2, .inl (cA 2, 1400, .inl (fun _ => 0))), (q3, .inl (cA 1, 11500, .inr (.inl (fun _ => 0)))), (q4, .inl (cA 1, 11500, .inr (.inl (fun _ => 0))))] := hD
  refine va_putF (D := G) (ci := 5) (v := .ref q4) (ty := .array .long) (C := RX7) (T := TX7) (N := 13) hx hb hts fin_X7 tyX7 tyX7_ok nmX7 hown hK.1 hP hD hS 0 rfl rfl 7 (by decide) (hts _ wi_678) (fun _ h9 => h9) rfl hin rfl (by decide +kernel) rfl rfl (Nat.le_of_ble_eq_true rfl) dX7_init_41 (fun H locs hP hD hS => ?_)
  have hP : va_P G vwCl [(h0, .inr (5, [.int 0, .ref q1, .int 0, .ref q2, .int 0, .int (-1), .ref q3, .ref q4, .int 0, .int 0, .int 0, .long 0, .long 0])), (q1, .inl (cA 2, 100, .inl (fun _ => 0))), (q2, .inl (cA 2, 1400, .inl (fun _ => 0))), (q3, .inl (cA 1, 11500, .inr (.inl (fun _ => 0)))), (q4, .inl (cA 1, 11500, .inr (.inl (fun _ => 0))))] H := hP
  have hD : va_D A [(h0, .inr (5, [.int 0, .ref q1, .int 0, .ref q2, .int 0, .int (-1), .ref q3, .ref q4, .int 0, .int 0, .int 0, .long 0, .long 0])), (q1, .inl (cA 2, 100, .inl (fun _ => 0))), (q2, .inl (cA 2, 1400, .inl (fun _ => 0))), (q3, .inl (cA 1, 11500, .inr (.inl (fun _ => 0)))), (q4, .inl (cA 1, 11500, .inr (.inl (fun _ => 0))))] := hD
  refine W.widen (k := 4) (n := 24500) (by omega) (by omega) ?_
  have hP : va_P G vwCl (wMd cA (mk5 h0 q1 q2 q3 q4) (uM_down (zMd0 0) (fun _ => 0))) H := hP
  have hD : va_D A (wMd cA (mk5 h0 q1 q2 q3 q4) (uM_down (zMd0 0) (fun _ => 0))) := hD
  rw [zMd0_0] at hP hD
  have loop : ∀ (n k : Nat), k + n = 11500 → ∀ (H : Heap) (locs : List Loc) (ls : Array Slot), va_P G vwCl (wMd cA (mk5 h0 q1 q2 q3 q4) (zMd0 k)) H → va_D A (wMd cA (mk5 h0 q1 q2 q3 q4) (zMd0 k)) → va_S A s.heap H locs → lv_has ls 2 [(1, .int (nI k)), (0, .ref h0)] → W p l e rm_X7_init s m ([.ref h0] : List Value).toArray below meth c H locs 4 24500 (MQ below (qI G (h0, .inr (5, [.int 0, .null, .int 0, .null, .int 0, .int 0, .null, .null, .int 0, .int 0, .int 0, .long 0, .long 0])) s.heap.size (fun q => wMd cA q (zMd0 11500))) ([.ref h0] : List Value).toArray s 4 24500 A) (F0 m 46 ls []) := by
    intro n
    induction n with
    | zero =>
      intro k hk H locs ls hP hD hS hl
      have hk : k = 11500 := by omega
      subst hk
      refine lv_iload_n hx hb dX7_init_46 rfl (lv_at hl 0 rfl) ?_
      refine lv_sipush (v := nI 11500) hx hb dX7_init_47 (by decide) ?_
      refine lv_icmp_ge (tgt := 66) hx hb dX7_init_50 (by decide) (fun c1 => ?_) (fun c1 => absurd (nI_le (Nat.le_refl _) (by omega)) c1)
      exact W.vret hx hb hr (fun t ht hW => ⟨⟨mk5 h0 q1 q2 q3 q4, rfl, rfl, toT ht hP, hAe ▸ hD⟩, hAe ▸ hS.F ht⟩) hS.2.2 dX7_init_66 hlocks
    | succ n ih =>
      intro k hk H locs ls hP hD hS hl
      refine lv_iload_n hx hb dX7_init_46 rfl (lv_at hl 0 rfl) ?_
      refine lv_sipush (v := nI 11500) hx hb dX7_init_47 (by decide) ?_
      refine lv_icmp_ge (tgt := 66) hx hb dX7_init_50 (by decide) (fun c1 => absurd c1 (nI_ge (by omega) (by omega))) (fun c1 => ?_)
      refine lv_aload_n hx hb dX7_init_53 rfl (lv_at hl 1 rfl) ?_
      refine va_get (D := G) (ci := 5) (v := .ref (mk5 h0 q1 q2 q3 q4 4)) (C := RX7) (T := TX7) (N := 13) hx hb hts fin_X7 hown hK.1 hP 0 rfl rfl 7 (by decide) (hts _ wi_678) (fun _ h9 => h9) rfl dX7_init_54 ?_
      refine lv_iload_n hx hb dX7_init_57 rfl (lv_at hl 0 rfl) ?_
      refine lv_lconst (v := (1 : Int64)) hx hb dX7_init_58 (by decide) ?_
      refine va_last hx hb hK.1 hP hD hS 4 1 rfl rfl (vp_in_nI (by unfold nUD; omega) (by unfold nUD; omega)) dX7_init_59 (fun H locs hP hD hS => ?_)
      have hP := sM_down_P hP
      have hD := sM_down_D hD
      rw [nI_clamp (by omega), zMd0_s] at hP hD
      refine lv_iinc (v := nI (k + 1)) (lv' := [(1, .int (nI (k + 1))), (0, .ref h0)]) hx hb dX7_init_60 hl (k := 0) rfl (nI_1 k) (by decide) rfl (fun ls hl => ?_)
      refine lv_goto (tgt := 46) hx hb dX7_init_63 (by decide) ?_
      exact ih (k + 1) (by omega) H locs ls hP hD hS hl
  refine lv_iconst (v := nI 0) hx hb dX7_init_44 (by decide) ?_
  refine lv_istore_n (lv' := [(1, .int (nI 0)), (0, .ref h0)]) hx hb dX7_init_45 rfl hl (by decide) rfl (fun ls hl => ?_)
  exact loop 11500 0 rfl H _ ls hP hD hS hl
