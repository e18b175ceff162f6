abbrev OutS : Type := Nat → Int64
def wOut (cA : Nat → ClassId) (q : Nat → Nat) (z : OutS) : va_W := [(q 0, .inl (cA 1, 1, .inr (.inl z)))]
def xH (A : Nat → Prop) (sa : Nat → Nat) (U : State) : Prop := xOK A sa U ∧ va_Nc "java/lang/IllegalStateException" "java/lang/IllegalArgumentException" U
def cH (G : va_G) (cA : Nat → ClassId) (sa : Nat → Nat) (av : List Value) (ws : va_W) : Array Value → State → Prop := va_Pc av (fun U => kOK G cA U ∧ va_P G vwCl ws U.heap ∧ va_D (fun _ => True) ws ∧ xH (adr ws) sa U)
theorem cH.blind {G : va_G} {cA : Nat → ClassId} {sa : Nat → Nat} {av : List Value} {ws : va_W} : FrameBlind (cH G cA sa av ws) := fun a U g mk q => by
  obtain ⟨q0, q1, q2, q3, q4, q5⟩ := q
  obtain ⟨e0, e1, e2, e3, e4⟩ := cX.blind a U g mk ⟨q0, q1, q2, q3, q4⟩
  exact ⟨e0, e1, e2, e3, e4, q5.moved (Vm.Alike.refl _)⟩
def MHi (l : Launch) (y : MethodName) (ws : List Cond) (rm : Room) (G : va_G) (cA : Nat → ClassId) (sa : Nat → Nat) (av : List Value) (w w' : va_W) (r : Int32) : Prop := Met l y ws rm (cH G cA sa av w) (qWi G w w' r) 1 6 (adr w)
section LHC
variable {p : Program} {l : Launch} {e : Env} {R : Room} {s : State} {m : MethodId} {args : Array Value} {below : List Frame} {meth : Method} {c : Code} {H : Heap} {locs : List Loc} {cells slots : Nat} {Q : State → Prop}
variable {y : MethodName} {bytes cc : ByteArray} {maxL nL n index : Nat} {ret : Option FieldType} {ws : List Cond} {rm : Room} {own C : String} {b : Addr} {As rest st0 : List Value} {pc : Nat} {ls : Array Slot}
variable {G : va_G} {cA : Nat → ClassId} {sa : Nat → Nat} {w w' W0 W1 : va_W} {A : Nat → Prop}
theorem preX9 (hk : kOK G cA s) (hP : va_P G vwCl W0 H) (hD : va_D A W0) (hS : va_S A s.heap H locs) {isC : List Nat} (hC : isC.map (fun i => W0[i]?) = w.map some) (hnC : va_nd isC = true) (hxo : xOK A sa s) {av : List Value} : ∀ U : State, U.heap = H → s.WarmedH U.vm → cX G cA sa av w av.toArray U := fun U hU hW => by
  obtain ⟨h1, h2, h3, h4⟩ := hxo
  exact ⟨rfl, hk.warm hW, by rw [hU]; exact pk hP isC hC, (hD.sub isC hnC hC).weaken (fun _ _ _ _ => trivial), xOK.warm hU hW ((h1.kept hS.2.1).narrow (adr_in hD hC)) ((h2.kept hS.2.1).narrow (adr_in hD hC)) h3 h4⟩
theorem cXiV {k r : Int32} (S : CallFix p m c cc nL s args wd own) (hM : MXi l y ws rm G cA sa (.ref b :: As) w w' k r) (cw : CallW R s args own C index y bytes maxL ret ws rm 1 6 n) (hk : kOK G cA s) (hP : va_P G vwCl W0 H) (hD : va_D A W0) (hS : va_S A s.heap H locs) (isC isB : List Nat) (hC : isC.map (fun i => W0[i]?) = w.map some) (hnC : va_nd isC = true) (hB : isB.map (fun i => (W0 ++ w')[i]?) = W1.map some) (hdis : ∀ i ∈ isB, i ∉ isC) (hadr : W1.map Prod.fst = W0.map Prod.fst) (hxo : xOK A sa s) (hrecv : ∃ cellB : Cell, H[b]? = some cellB ∧ cellB.vm.isStatics = false ∧ s.vm.findClass C = some cellB.cls)
    (hn : As.length = n) (hsize : ls.size = nL) (hst : st0 = As.reverse ++ .ref b :: rest) (hW : (rest.map fun v => v.category).sum ≤ 8) (hdg : decode cc pc = .ok (.invokevirtual index, 3)) (hf : cells + 1 ≤ R.cells ∧ slots + 6 ≤ R.slots)
    (kx : ∀ (ce : Cell) (q9 : Addr) (H1 : Heap) (locs1 : List Loc), ¬ k = 0 → va_P G vwCl W1 H1 → va_D A W1 → va_S A s.heap H1 locs1 → H1[q9]? = some ce → ce.vm = .none → s.vm.findClass (exn k) = some ce.cls → vx_W p l e R s m args below meth c H1 locs1 (cells + 1) (slots + 6) Q (F0 m pc ls rest) q9)
    (kk : ∀ (H1 : Heap) (locs1 : List Loc), k = 0 → va_P G vwCl W1 H1 → va_D A W1 → va_S A s.heap H1 locs1 → W p l e R s m args below meth c H1 locs1 (cells + 1) (slots + 6) Q (F0 m (pc + 3) ls (.int r :: rest))) : W p l e R s m args below meth c H locs cells slots Q (F0 m pc ls st0) := by
  refine vx_calli (vx_runV (g := F0 m pc ls st0) S hM cw ⟨cX.blind, hrecv, preX9 hk hP hD hS hC hnC hxo⟩ rfl hn hsize hst (lv_room hW) hdg hf) hS (fun q _ h => adr_in hD hC q h) (adr_in hD hC) (fun q _ h => adr_in hD hC q h) (fun E ce q9 u t H1 locs1 ht hvm hpx hbx hz1 hk1 hS1 hce hcv hcl => ?_) (fun x u t H1 locs1 ht hvm hw hB1 hz1 hk1 hS1 => ?_)
  · obtain ⟨hE, hP9⟩ := hbx
    obtain ⟨hP2, hD2⟩ := w_call hP hD isC isB hC hB hdis hadr hk1 (by rw [← ht]; exact hP9)
    subst hE
    exact kx ce q9 H1 locs1 hpx hP2 hD2 hS1 hce hcv hcl
  · obtain ⟨hP2, hD2⟩ := w_call hP hD isC isB hC hB hdis hadr hk1 (by rw [← ht]; exact hB1)
    obtain ⟨hk0, hw⟩ := hw
    subst hw
    exact kk H1 locs1 hk0 hP2 hD2 hS1
theorem cXlV {k : Int32} {r : Int64} (S : CallFix p m c cc nL s args wd own) (hM : MXl l y ws rm G cA sa (.ref b :: As) w w' k r) (cw : CallW R s args own C index y bytes maxL ret ws rm 1 6 n) (hk : kOK G cA s) (hP : va_P G vwCl W0 H) (hD : va_D A W0) (hS : va_S A s.heap H locs) (isC isB : List Nat) (hC : isC.map (fun i => W0[i]?) = w.map some) (hnC : va_nd isC = true) (hB : isB.map (fun i => (W0 ++ w')[i]?) = W1.map some) (hdis : ∀ i ∈ isB, i ∉ isC) (hadr : W1.map Prod.fst = W0.map Prod.fst) (hxo : xOK A sa s) (hrecv : ∃ cellB : Cell, H[b]? = some cellB ∧ cellB.vm.isStatics = false ∧ s.vm.findClass C = some cellB.cls)
    (hn : As.length = n) (hsize : ls.size = nL) (hst : st0 = As.reverse ++ .ref b :: rest) (hW : (rest.map fun v => v.category).sum ≤ 8) (hdg : decode cc pc = .ok (.invokevirtual index, 3)) (hf : cells + 1 ≤ R.cells ∧ slots + 6 ≤ R.slots)
    (kx : ∀ (ce : Cell) (q9 : Addr) (H1 : Heap) (locs1 : List Loc), ¬ k = 0 → va_P G vwCl W1 H1 → va_D A W1 → va_S A s.heap H1 locs1 → H1[q9]? = some ce → ce.vm = .none → s.vm.findClass (exn k) = some ce.cls → vx_W p l e R s m args below meth c H1 locs1 (cells + 1) (slots + 6) Q (F0 m pc ls rest) q9)
    (kk : ∀ (H1 : Heap) (locs1 : List Loc), k = 0 → va_P G vwCl W1 H1 → va_D A W1 → va_S A s.heap H1 locs1 → W p l e R s m args below meth c H1 locs1 (cells + 1) (slots + 6) Q (F0 m (pc + 3) ls (.long r :: rest))) : W p l e R s m args below meth c H locs cells slots Q (F0 m pc ls st0) := by
  refine vx_calll (vx_runV (g := F0 m pc ls st0) S hM cw ⟨cX.blind, hrecv, preX9 hk hP hD hS hC hnC hxo⟩ rfl hn hsize hst (lv_room hW) hdg hf) hS (fun q _ h => adr_in hD hC q h) (adr_in hD hC) (fun q _ h => adr_in hD hC q h) (fun E ce q9 u t H1 locs1 ht hvm hpx hbx hz1 hk1 hS1 hce hcv hcl => ?_) (fun x u t H1 locs1 ht hvm hw hB1 hz1 hk1 hS1 => ?_)
  · obtain ⟨hE, hP9⟩ := hbx
    obtain ⟨hP2, hD2⟩ := w_call hP hD isC isB hC hB hdis hadr hk1 (by rw [← ht]; exact hP9)
    subst hE
    exact kx ce q9 H1 locs1 hpx hP2 hD2 hS1 hce hcv hcl
  · obtain ⟨hP2, hD2⟩ := w_call hP hD isC isB hC hB hdis hadr hk1 (by rw [← ht]; exact hB1)
    obtain ⟨hk0, hw⟩ := hw
    subst hw
    exact kk H1 locs1 hk0 hP2 hD2 hS1
theorem cHiS {r : Int32} {hh : List (Nat × Nat × Nat × Nat)} (S : CallFix p m c cc nL s args wd own) (hM : MHi l y ws rm G cA sa As w w' r) (cw : vx_CSW R s args own index y bytes maxL ret hh ws rm 1 6 n) (hk : kOK G cA s) (hP : va_P G vwCl W0 H) (hD : va_D A W0) (hS : va_S A s.heap H locs) (isC isB : List Nat) (hC : isC.map (fun i => W0[i]?) = w.map some) (hnC : va_nd isC = true) (hB : isB.map (fun i => (W0 ++ w')[i]?) = W1.map some) (hdis : ∀ i ∈ isB, i ∉ isC) (hadr : W1.map Prod.fst = W0.map Prod.fst) (hxo : xH A sa s)
    (hn : As.length = n) (hsize : ls.size = nL) (hst : st0 = As.reverse ++ rest) (hW : (rest.map fun v => v.category).sum ≤ 8) (hdg : decode cc pc = .ok (.invokestatic index, 3)) (hf : cells + 1 ≤ R.cells ∧ slots + 6 ≤ R.slots)
    (kk : ∀ (H1 : Heap) (locs1 : List Loc), va_P G vwCl W1 H1 → va_D A W1 → va_S A s.heap H1 locs1 → W p l e R s m args below meth c H1 locs1 (cells + 1) (slots + 6) Q (F0 m (pc + 3) ls (.int r :: rest))) : W p l e R s m args below meth c H locs cells slots Q (F0 m pc ls st0) := by
  refine va_calli (vx_runSW (g := F0 m pc ls st0) S hM cw ⟨cH.blind, fun U hU hW => ?_⟩ rfl hn hsize hst (lv_room hW) hdg hf) hS (fun q _ h => adr_in hD hC q h) (adr_in hD hC) (fun x u t H1 locs1 ht hvm hw hB1 hz1 hk1 hS1 => ?_)
  · obtain ⟨e0, e1, e2, e3, e4⟩ := preX9 hk hP hD hS hC hnC hxo.1 (av := As) U hU hW
    exact ⟨e0, e1, e2, e3, e4, hxo.2.moved hW.alike⟩
  · obtain ⟨hP2, hD2⟩ := w_call hP hD isC isB hC hB hdis hadr hk1 (by rw [← ht]; exact hB1)
    subst hw
    exact kk H1 locs1 hP2 hD2 hS1
theorem cwH9 {hh : List (Nat × Nat × Nat × Nat)} {index : Nat} (n : Nat) (ht : ∀ w ∈ wd, w.before args s = true) (hcode : Cond.codeWith y bytes maxL ret hh ∈ wd) (hstat : Cond.static y ∈ wd) (hini : Cond.initialized y.cls ∈ wd) (hlink : Cond.methodLink own index y ∈ wd)
    (hd : y.cls ≠ "java/lang/invoke/MethodHandle" ∧ y.cls ≠ "java/lang/invoke/VarHandle" ∧ (parseMethodDescriptor y.desc).map (fun d => d.parameters.length) = some n) (hrc : rm.cells = 1) (hrs : rm.slots = 6) (hR : rm.frames + 1 ≤ R.frames ∧ 8 + (maxL + 11) + rm.locals ≤ R.locals) :
    vx_CSW R s args own index y bytes maxL ret hh (Cond.codeWith y bytes maxL ret hh :: wd) rm 1 6 n := by
  have hG : GoodIn wd (Cond.codeWith y bytes maxL ret hh :: wd) := fun w h => by
    rcases List.mem_cons.mp h with rfl | h
    · exact ⟨hcode, good_of_word (List.mem_filter.mp hcode).2⟩
    · exact ⟨h, good_of_word (List.mem_filter.mp h).2⟩
  refine ⟨⟨hrc, hrs, hR.1, hR.2, pay_in ht hG, List.mem_cons_self⟩, ht _ hcode, ht _ hini, ⟨hd.1, hd.2.1⟩, fun sig h => ?_, ht _ hlink, ht _ hstat⟩
  have h2 := hd.2.2
  rw [h] at h2
  exact (Option.some.inj h2).symm
end LHC
