abbrev DeskS : Type := (Nat → SumS) × SumS × SumS × LineS × RdS × WrS
def gD_slots (z : DeskS) : Nat → SumS := z.1
def gD_work (z : DeskS) : SumS := z.2.1
def gD_left (z : DeskS) : SumS := z.2.2.1
def gD_line (z : DeskS) : LineS := z.2.2.2.1
def gD_rd (z : DeskS) : RdS := z.2.2.2.2.1
def gD_wr (z : DeskS) : WrS := z.2.2.2.2.2
def uD_slots (z : DeskS) (v : Nat → SumS) : DeskS := (v, z.2.1, z.2.2.1, z.2.2.2.1, z.2.2.2.2.1, z.2.2.2.2.2)
def uD_work (z : DeskS) (v : SumS) : DeskS := (z.1, v, z.2.2.1, z.2.2.2.1, z.2.2.2.2.1, z.2.2.2.2.2)
def uD_left (z : DeskS) (v : SumS) : DeskS := (z.1, z.2.1, v, z.2.2.2.1, z.2.2.2.2.1, z.2.2.2.2.2)
def uD_line (z : DeskS) (v : LineS) : DeskS := (z.1, z.2.1, z.2.2.1, v, z.2.2.2.2.1, z.2.2.2.2.2)
def uD_rd (z : DeskS) (v : RdS) : DeskS := (z.1, z.2.1, z.2.2.1, z.2.2.2.1, v, z.2.2.2.2.2)
def uD_wr (z : DeskS) (v : WrS) : DeskS := (z.1, z.2.1, z.2.2.1, z.2.2.2.1, z.2.2.2.2.1, v)
def uD_slot (z : DeskS) (j : Nat) (v : SumS) : DeskS := uD_slots z (va_up (gD_slots z) j v)
def wDesk (cA : Nat → ClassId) (Q : Nat → Nat → Nat) (z : DeskS) : va_W :=
  (Q 0 0, .inr (4, [.ref (Q 0 1), .ref (Q 1 0), .ref (Q 2 0), .ref (Q 3 0), .ref (Q 4 0), .ref (Q 5 0)])) :: (Q 0 1, .inl (cA 3, 8, .inr (.inr (.inr (.inr (fun j => some (Q (6 + j) 0))))))) ::
  (wSum cA (Q 1) 200 (gD_work z) ++ (wSum cA (Q 2) 40 (gD_left z) ++ (wLine cA (Q 3) (gD_line z) ++ (wRd (Q 4) (Q 3) (Q 1) (gD_rd z) ++ (wWr cA (Q 5) (gD_wr z) ++
  (wSum cA (Q (6 + 0)) 40 (gD_slots z 0) ++ (wSum cA (Q (6 + 1)) 40 (gD_slots z 1) ++ (wSum cA (Q (6 + 2)) 40 (gD_slots z 2) ++ (wSum cA (Q (6 + 3)) 40 (gD_slots z 3) ++
  (wSum cA (Q (6 + 4)) 40 (gD_slots z 4) ++ (wSum cA (Q (6 + 5)) 40 (gD_slots z 5) ++ (wSum cA (Q (6 + 6)) 40 (gD_slots z 6) ++ wSum cA (Q (6 + 7)) 40 (gD_slots z 7)))))))))))))
def sIs (j : Nat) : List Nat := [15 + 4 * j, 16 + 4 * j, 17 + 4 * j, 18 + 4 * j]
def sBs (j : Nat) : List Nat := (List.range 47).map (fun i => if 15 + 4 * j ≤ i ∧ i < 19 + 4 * j then 47 + (i - (15 + 4 * j)) else i)
theorem lt8 {P : Nat → Prop} {j : Nat} (hj : j < 8) (h0 : P 0) (h1 : P 1) (h2 : P 2) (h3 : P 3) (h4 : P 4) (h5 : P 5) (h6 : P 6) (h7 : P 7) : P j := by
  rcases (show j = 0 ∨ j = 1 ∨ j = 2 ∨ j = 3 ∨ j = 4 ∨ j = 5 ∨ j = 6 ∨ j = 7 by omega) with rfl | rfl | rfl | rfl | rfl | rfl | rfl | rfl <;> assumption
theorem inb8 {i : Int32} (h : inb i 8 = true) : i.toNatClampNeg < 8 := by
  have h1 := vp_in_of (inb_in h) (by decide)
  obtain ⟨j, hj, rfl⟩ := h1
  rw [nI_clamp (by omega)]
  exact hj
theorem slotC (cA : Nat → ClassId) (Q : Nat → Nat → Nat) (z : DeskS) {j : Nat} (hj : j < 8) : (sIs j).map (fun i => (wDesk cA Q z)[i]?) = (wSum cA (Q (6 + j)) 40 (gD_slots z j)).map some :=
  lt8 (P := fun j => (sIs j).map (fun i => (wDesk cA Q z)[i]?) = (wSum cA (Q (6 + j)) 40 (gD_slots z j)).map some) hj rfl rfl rfl rfl rfl rfl rfl rfl
theorem slotB (cA : Nat → ClassId) (Q : Nat → Nat → Nat) (z : DeskS) (v : SumS) {j : Nat} (hj : j < 8) : (sBs j).map (fun i => (wDesk cA Q z ++ wSum cA (Q (6 + j)) 40 v)[i]?) = (wDesk cA Q (uD_slot z j v)).map some :=
  lt8 (P := fun j => (sBs j).map (fun i => (wDesk cA Q z ++ wSum cA (Q (6 + j)) 40 v)[i]?) = (wDesk cA Q (uD_slot z j v)).map some) hj rfl rfl rfl rfl rfl rfl rfl rfl
theorem slotNd {j : Nat} (hj : j < 8) : va_nd (sIs j) = true := lt8 (P := fun j => va_nd (sIs j) = true) hj (by decide) (by decide) (by decide) (by decide) (by decide) (by decide) (by decide) (by decide)
theorem slotDis {j : Nat} (hj : j < 8) : ∀ i ∈ sBs j, i ∉ sIs j := lt8 (P := fun j => ∀ i ∈ sBs j, i ∉ sIs j) hj (by decide) (by decide) (by decide) (by decide) (by decide) (by decide) (by decide) (by decide)
theorem slotOut {j : Nat} (is : List Nat) (h : ∀ i ∈ is, i < 15) : ∀ i ∈ sIs j, i ∉ is := by
  intro i hi h2
  have := h i h2
  simp only [sIs, List.mem_cons, List.not_mem_nil, or_false] at hi
  omega
theorem slotIn {j : Nat} (is : List Nat) (h : ∀ i ∈ is, i < 15) : ∀ i ∈ is, i ∉ sIs j := fun i hi h2 => slotOut is h i h2 hi
theorem slotRecv {G : va_G} {cA : Nat → ClassId} {Q : Nat → Nat → Nat} {z : DeskS} {s : State} {H : Heap} (hK : va_K G vwCl (tysA cA) s) (hP : va_P G vwCl (wDesk cA Q z) H) {j : Nat} (hj : j < 8) : ∃ cell : Cell, H[Q (6 + j) 0]? = some cell ∧ cell.vm.isStatics = false ∧ s.vm.findClass RX4 = some cell.cls :=
  va_recv (ci := 2) (q0 := 0) hK (pk hP (sIs j) (slotC cA Q z hj)) rfl rfl
theorem subC_work (cA : Nat → ClassId) (Q : Nat → Nat → Nat) (z : DeskS) : [2, 3, 4, 5].map (fun i => (wDesk cA Q z)[i]?) = (wSum cA (Q 1) 200 (gD_work z)).map some := rfl
theorem subB_work (cA : Nat → ClassId) (Q : Nat → Nat → Nat) (z : DeskS) (v : SumS) : [0, 1, 47, 48, 49, 50, 6, 7, 8, 9, 10, 11, 12, 13, 14, 15, 16, 17, 18, 19, 20, 21, 22, 23, 24, 25, 26, 27, 28, 29, 30, 31, 32, 33, 34, 35, 36, 37, 38, 39, 40, 41, 42, 43, 44, 45, 46].map (fun i => (wDesk cA Q z ++ wSum cA (Q 1) 200 v)[i]?) = (wDesk cA Q (uD_work z v)).map some := rfl
theorem subC_left (cA : Nat → ClassId) (Q : Nat → Nat → Nat) (z : DeskS) : [6, 7, 8, 9].map (fun i => (wDesk cA Q z)[i]?) = (wSum cA (Q 2) 40 (gD_left z)).map some := rfl
theorem subB_left (cA : Nat → ClassId) (Q : Nat → Nat → Nat) (z : DeskS) (v : SumS) : [0, 1, 2, 3, 4, 5, 47, 48, 49, 50, 10, 11, 12, 13, 14, 15, 16, 17, 18, 19, 20, 21, 22, 23, 24, 25, 26, 27, 28, 29, 30, 31, 32, 33, 34, 35, 36, 37, 38, 39, 40, 41, 42, 43, 44, 45, 46].map (fun i => (wDesk cA Q z ++ wSum cA (Q 2) 40 v)[i]?) = (wDesk cA Q (uD_left z v)).map some := rfl
theorem subC_line (cA : Nat → ClassId) (Q : Nat → Nat → Nat) (z : DeskS) : [10, 11].map (fun i => (wDesk cA Q z)[i]?) = (wLine cA (Q 3) (gD_line z)).map some := rfl
theorem subB_line (cA : Nat → ClassId) (Q : Nat → Nat → Nat) (z : DeskS) (v : LineS) : [0, 1, 2, 3, 4, 5, 6, 7, 8, 9, 47, 48, 12, 13, 14, 15, 16, 17, 18, 19, 20, 21, 22, 23, 24, 25, 26, 27, 28, 29, 30, 31, 32, 33, 34, 35, 36, 37, 38, 39, 40, 41, 42, 43, 44, 45, 46].map (fun i => (wDesk cA Q z ++ wLine cA (Q 3) v)[i]?) = (wDesk cA Q (uD_line z v)).map some := rfl
theorem subC_rd (cA : Nat → ClassId) (Q : Nat → Nat → Nat) (z : DeskS) : [12].map (fun i => (wDesk cA Q z)[i]?) = (wRd (Q 4) (Q 3) (Q 1) (gD_rd z)).map some := rfl
theorem subB_rd (cA : Nat → ClassId) (Q : Nat → Nat → Nat) (z : DeskS) (v : RdS) : [0, 1, 2, 3, 4, 5, 6, 7, 8, 9, 10, 11, 47, 13, 14, 15, 16, 17, 18, 19, 20, 21, 22, 23, 24, 25, 26, 27, 28, 29, 30, 31, 32, 33, 34, 35, 36, 37, 38, 39, 40, 41, 42, 43, 44, 45, 46].map (fun i => (wDesk cA Q z ++ wRd (Q 4) (Q 3) (Q 1) v)[i]?) = (wDesk cA Q (uD_rd z v)).map some := rfl
theorem subC_wr (cA : Nat → ClassId) (Q : Nat → Nat → Nat) (z : DeskS) : [13, 14].map (fun i => (wDesk cA Q z)[i]?) = (wWr cA (Q 5) (gD_wr z)).map some := rfl
theorem subB_wr (cA : Nat → ClassId) (Q : Nat → Nat → Nat) (z : DeskS) (v : WrS) : [0, 1, 2, 3, 4, 5, 6, 7, 8, 9, 10, 11, 12, 47, 48, 15, 16, 17, 18, 19, 20, 21, 22, 23, 24, 25, 26, 27, 28, 29, 30, 31, 32, 33, 34, 35, 36, 37, 38, 39, 40, 41, 42, 43, 44, 45, 46].map (fun i => (wDesk cA Q z ++ wWr cA (Q 5) v)[i]?) = (wDesk cA Q (uD_wr z v)).map some := rfl
theorem subC_rd_work (cA : Nat → ClassId) (Q : Nat → Nat → Nat) (z : DeskS) : [12, 2, 3, 4, 5].map (fun i => (wDesk cA Q z)[i]?) = (wRd (Q 4) (Q 3) (Q 1) (gD_rd z) ++ wSum cA (Q 1) 200 (gD_work z)).map some := rfl
theorem subB_rd_work (cA : Nat → ClassId) (Q : Nat → Nat → Nat) (z : DeskS) (v : RdS) (u : SumS) : [0, 1, 48, 49, 50, 51, 6, 7, 8, 9, 10, 11, 47, 13, 14, 15, 16, 17, 18, 19, 20, 21, 22, 23, 24, 25, 26, 27, 28, 29, 30, 31, 32, 33, 34, 35, 36, 37, 38, 39, 40, 41, 42, 43, 44, 45, 46].map (fun i => (wDesk cA Q z ++ (wRd (Q 4) (Q 3) (Q 1) v ++ wSum cA (Q 1) 200 u))[i]?) = (wDesk cA Q (uD_work (uD_rd z v) u)).map some := rfl
theorem subC_work_left (cA : Nat → ClassId) (Q : Nat → Nat → Nat) (z : DeskS) : [2, 3, 4, 5, 6, 7, 8, 9].map (fun i => (wDesk cA Q z)[i]?) = (wSum cA (Q 1) 200 (gD_work z) ++ wSum cA (Q 2) 40 (gD_left z)).map some := rfl
theorem subB_work_left (cA : Nat → ClassId) (Q : Nat → Nat → Nat) (z : DeskS) (v : SumS) (u : SumS) : [0, 1, 47, 48, 49, 50, 51, 52, 53, 54, 10, 11, 12, 13, 14, 15, 16, 17, 18, 19, 20, 21, 22, 23, 24, 25, 26, 27, 28, 29, 30, 31, 32, 33, 34, 35, 36, 37, 38, 39, 40, 41, 42, 43, 44, 45, 46].map (fun i => (wDesk cA Q z ++ (wSum cA (Q 1) 200 v ++ wSum cA (Q 2) 40 u))[i]?) = (wDesk cA Q (uD_left (uD_work z v) u)).map some := rfl
theorem subC_all (cA : Nat → ClassId) (Q : Nat → Nat → Nat) (z : DeskS) : [0, 1, 2, 3, 4, 5, 6, 7, 8, 9, 10, 11, 12, 13, 14, 15, 16, 17, 18, 19, 20, 21, 22, 23, 24, 25, 26, 27, 28, 29, 30, 31, 32, 33, 34, 35, 36, 37, 38, 39, 40, 41, 42, 43, 44, 45, 46].map (fun i => (wDesk cA Q z)[i]?) = (wDesk cA Q z).map some := rfl
theorem subB_all (cA : Nat → ClassId) (Q : Nat → Nat → Nat) (z : DeskS) (v : DeskS) : [47, 48, 49, 50, 51, 52, 53, 54, 55, 56, 57, 58, 59, 60, 61, 62, 63, 64, 65, 66, 67, 68, 69, 70, 71, 72, 73, 74, 75, 76, 77, 78, 79, 80, 81, 82, 83, 84, 85, 86, 87, 88, 89, 90, 91, 92, 93].map (fun i => (wDesk cA Q z ++ wDesk cA Q v)[i]?) = (wDesk cA Q v).map some := rfl
theorem deskAdr (cA : Nat → ClassId) (Q : Nat → Nat → Nat) (z v : DeskS) : (wDesk cA Q v).map Prod.fst = (wDesk cA Q z).map Prod.fst := rfl
def exn (k : Int32) : String := if k = 1 then "java/lang/IllegalArgumentException" else "java/lang/IllegalStateException"
abbrev xTexts : List (Nat × String) := [(58, "the line would be too long"), (75, "no such slot"), (96, "no such factor"), (102, "the second sum is not small"), (109, "a factor is not small"), (130, "the sum is not small"), (145, "no such part of a term")]
abbrev xBad : List Cond := [.castable "java/lang/IllegalArgumentException" "java/lang/IllegalArgumentException", .castable "java/lang/IllegalStateException" "java/lang/IllegalStateException", .declares ⟨"java/lang/RuntimeException", "<init>", "(Ljava/lang/String;)V"⟩, .declares ⟨"java/lang/Exception", "<init>", "(Ljava/lang/String;)V"⟩, .declares ⟨"java/lang/Throwable", "<init>", "(Ljava/lang/String;)V"⟩]
theorem xBad_on : ∀ w ∈ xBad, w.onTables = true := by
  intro w hw
  simp only [xBad, List.mem_cons, List.not_mem_nil, or_false] at hw
  rcases hw with rfl | rfl | rfl | rfl | rfl <;> rfl
theorem xBad_warm {s U : State} (hW : s.WarmedH U.vm) (h : ∀ w ∈ xBad, va_Nw w s) : ∀ w ∈ xBad, va_Nw w U := by
  intro w hw
  have h1 := h w hw
  simp only [xBad, List.mem_cons, List.not_mem_nil, or_false] at hw
  rcases hw with rfl | rfl | rfl | rfl | rfl
  · exact va_Nw.warmC hW h1
  · exact va_Nw.warmC hW h1
  · exact va_Nw.warmD hW h1
  · exact va_Nw.warmD hW h1
  · exact va_Nw.warmD hW h1
def xOK (A : Nat → Prop) (sa : Nat → Nat) (U : State) : Prop := vx_Zq Bundle.tN "UNASSIGNED_STACK" Bundle.steD A U U.heap ∧ vx_Zq Bundle.tN "SUPPRESSED_SENTINEL" Bundle.listD A U U.heap ∧ (∀ q ∈ xTexts, vk_R RX6 q.1 q.2 (sa q.1) U) ∧ ∀ w ∈ xBad, va_Nw w U
theorem xOK.warm {A : Nat → Prop} {sa : Nat → Nat} {s U : State} {H : Heap} (hU : U.heap = H) (hW : s.WarmedH U.vm) (h1 : vx_Zq Bundle.tN "UNASSIGNED_STACK" Bundle.steD A s H) (h2 : vx_Zq Bundle.tN "SUPPRESSED_SENTINEL" Bundle.listD A s H) (h3 : ∀ q ∈ xTexts, vk_R RX6 q.1 q.2 (sa q.1) s) (h4 : ∀ w ∈ xBad, va_Nw w s) : xOK A sa U :=
  ⟨by rw [hU]; exact h1.moved hW.alike, by rw [hU]; exact h2.moved hW.alike, fun q hq => (h3 q hq).warm hW, xBad_warm hW h4⟩
def cX (G : va_G) (cA : Nat → ClassId) (sa : Nat → Nat) (av : List Value) (ws : va_W) : Array Value → State → Prop := va_Pc av (fun U => kOK G cA U ∧ va_P G vwCl ws U.heap ∧ va_D (fun _ => True) ws ∧ xOK (adr ws) sa U)
theorem cX.blind {G : va_G} {cA : Nat → ClassId} {sa : Nat → Nat} {av : List Value} {ws : va_W} : FrameBlind (cX G cA sa av ws) := fun a U g mk q => ⟨q.1, kOK.same (u := U) rfl q.2.1, q.2.2.1, q.2.2.2.1, q.2.2.2.2.1.moved (Vm.Alike.refl _), q.2.2.2.2.2.1.moved (Vm.Alike.refl _), fun z hz => vk_R.same rfl (q.2.2.2.2.2.2.1 z hz), fun w hw => va_Nw.same (xBad_on w hw) (u := U) rfl (q.2.2.2.2.2.2.2 w hw)⟩
def qXi (G : va_G) (w w' : va_W) (k r : Int32) : Array Value → State → Outcome → State → Prop := va_Qi (fun x (_ : Unit) => k = 0 ∧ x = r) (fun _ t => va_P G vwCl w' t.heap) (adr w)
def qXl (G : va_G) (w w' : va_W) (k : Int32) (r : Int64) : Array Value → State → Outcome → State → Prop := va_Ql (fun x (_ : Unit) => k = 0 ∧ x = r) (fun _ t => va_P G vwCl w' t.heap) (adr w)
def qXx (G : va_G) (w w' : va_W) (k : Int32) : String → State → State → Prop := vx_X (fun (_ : Unit) => ¬ k = 0) (fun E _ t => E = exn k ∧ va_P G vwCl w' t.heap) (adr w)
def MXi (l : Launch) (y : MethodName) (ws : List Cond) (rm : Room) (G : va_G) (cA : Nat → ClassId) (sa : Nat → Nat) (av : List Value) (w w' : va_W) (k r : Int32) : Prop := vx_Met l y ws rm (cX G cA sa av w) (qXi G w w' k r) (qXx G w w' k) 1 6 (adr w)
def MXl (l : Launch) (y : MethodName) (ws : List Cond) (rm : Room) (G : va_G) (cA : Nat → ClassId) (sa : Nat → Nat) (av : List Value) (w w' : va_W) (k : Int32) (r : Int64) : Prop := vx_Met l y ws rm (cX G cA sa av w) (qXl G w w' k r) (qXx G w w' k) 1 6 (adr w)
theorem xISE : ∀ w ∈ (vx_atS RX6 60 "java/lang/IllegalStateException" ["java/lang/RuntimeException", "java/lang/Exception"]).filter goodWord, w ∈ lw_tbl := by decide +kernel
theorem xIAE : ∀ w ∈ (vx_atS RX6 77 "java/lang/IllegalArgumentException" ["java/lang/RuntimeException", "java/lang/Exception"]).filter goodWord, w ∈ lw_tbl := by decide +kernel
theorem xISEb : ∀ w ∈ (vx_atS RX6 60 "java/lang/IllegalStateException" ["java/lang/RuntimeException", "java/lang/Exception"]).filter (fun w => !goodWord w), w ∈ xBad := by decide +kernel
theorem xIAEb : ∀ w ∈ (vx_atS RX6 77 "java/lang/IllegalArgumentException" ["java/lang/RuntimeException", "java/lang/Exception"]).filter (fun w => !goodWord w), w ∈ xBad := by decide +kernel
theorem xISEg : ∀ w ∈ Cond.classLink RX6 56 "java/lang/IllegalStateException" :: Cond.initialized "java/lang/IllegalStateException" :: vx_atS RX6 60 "java/lang/IllegalStateException" ["java/lang/RuntimeException", "java/lang/Exception"], vx_ot w = true := by decide +kernel
theorem xIAEg : ∀ w ∈ Cond.classLink RX6 73 "java/lang/IllegalArgumentException" :: Cond.initialized "java/lang/IllegalArgumentException" :: vx_atS RX6 77 "java/lang/IllegalArgumentException" ["java/lang/RuntimeException", "java/lang/Exception"], vx_ot w = true := by decide +kernel
theorem cwV9x {R : Room} {s : State} {args : Array Value} {y : MethodName} {bytes : ByteArray} {maxL mc ms : Nat} {ret : Option FieldType} {rm : Room} {own C : String} {index : Nat} (n : Nat) (ht : ∀ w ∈ wd, w.before args s = true) (hcode : Cond.code y bytes maxL ret ∈ wd) (hinst : Cond.instanceMethod y ∈ wd) (hsel : Cond.selects C y y ∈ wd) (hini : Cond.initialized C ∈ wd) (hlink : Cond.methodLink own index y ∈ wd)
    (hd : y.cls = C ∧ y.cls ≠ "java/lang/invoke/MethodHandle" ∧ y.cls ≠ "java/lang/invoke/VarHandle" ∧ (parseMethodDescriptor y.desc).map (fun d => d.parameters.length) = some n) (hrc : rm.cells = mc) (hrs : rm.slots = ms) (hR : rm.frames + 1 ≤ R.frames ∧ 8 + (maxL + 11) + rm.locals ≤ R.locals) :
    CallW R s args own C index y bytes maxL ret (Cond.code y bytes maxL ret :: wd) rm mc ms n := by
  obtain ⟨hC, hd⟩ := hd
  subst hC
  have hG : GoodIn wd (Cond.code y bytes maxL ret :: wd) := fun w h => by
    rcases List.mem_cons.mp h with rfl | h
    · exact ⟨hcode, good_of_word (List.mem_filter.mp hcode).2⟩
    · exact ⟨h, good_of_word (List.mem_filter.mp h).2⟩
  exact ⟨callB_of n ht hG rfl hrc hrs (ht _ hini) (ht _ hlink) hd hR, ht _ hinst, ht _ hsel⟩
section XTH
variable {p : Program} {l : Launch} {e : Env} {R : Room} {s : State} {m : MethodId} {args : Array Value} {below : List Frame} {meth : Method} {c : Code} {H : Heap} {locs : List Loc} {cc : ByteArray} {pc : Nat} {ls : Array Slot} {rest : List Value} {G : va_G} {w9 w : va_W} {sa : Nat → Nat} {Qc : Array Value → State → Outcome → State → Prop}
theorem k_throw {E : String} {ik ic : Nat} (hexec : p.tables.exec = Jvm.exec) (hb : c.code = cc) (hl : l.stackTraces = false) (hown : s.vm.findClass RX6 = some m.cls) (hcls : Bundle.fit E = true)
    (hk : (Cond.classLink RX6 ik E).before args s = true) (hini : (Cond.initialized E).before args s = true)
    (hat : ∀ w ∈ vx_atS RX6 ic E ["java/lang/RuntimeException", "java/lang/Exception"], w.before args s = true)
    (hgood : ∀ w ∈ Cond.classLink RX6 ik E :: Cond.initialized E :: vx_atS RX6 ic E ["java/lang/RuntimeException", "java/lang/Exception"], vx_ot w = true)
    (hxo : xOK (adr w9) sa s) (hS : va_S (adr w9) s.heap H locs) (hsize : ls.size = c.maxLocals) (is : Nat) (text : String) (hstr : (is, text) ∈ xTexts)
    (d0 : decode cc pc = .ok (.new ik, 3)) (d3 : decode cc (pc + 3) = .ok (.dup, 1)) (d4 : decode cc (pc + 4) = .ok (.ldc is, 2)) (d6 : decode cc (pc + 6) = .ok (.invokespecial ic, 3)) (d9 : decode cc (pc + 9) = .ok (.athrow, 1))
    (hout : ∀ x ∈ c.exceptionTable.toList, False) (hRf : 6 ≤ R.frames) (hRl : (rest.map fun v => v.category).sum + 82 ≤ R.locals) (hRc : 1 ≤ R.cells) (hRs : 6 ≤ R.slots) (hlocks : meth.locks = false)
    {k : Int32} (hkn : ¬ k = 0) (hE : E = exn k) (hP : va_P G vwCl w H) :
    W p l e R s m args below meth c H locs 0 0 (vx_MQ below Qc (qXx G w9 w k) args s 1 6 (adr w9)) (F0 m pc ls rest) := by
  obtain ⟨hU, hN, hst, -⟩ := hxo
  refine vx_throwS (names := ["java/lang/RuntimeException", "java/lang/Exception"]) (text := text) (is := is) hexec hb hl hown hcls (by decide +kernel) hk hini (hst _ hstr) hat hgood hU hN hS hsize d0 d3 d4 d6 d9 (fun x hx => (hout x hx).elim) hRf hRl (by omega) (by omega) hlocks ?_ hS.2.2 (Nat.le_refl _) (Nat.le_refl _)
  intro t hal hz hk9
  refine ⟨(), hkn, ⟨hE, fun j q hq => (hP j q hq).kept (hk9 q.1 (hP j q hq).lt)⟩, Nat.le_trans hS.1 hz, fun q h1 h2 => ?_⟩
  rw [hk9 q (Nat.lt_of_lt_of_le h1 hS.1)]
  exact hS.2.1 q h1 h2
theorem k_ISE (hexec : p.tables.exec = Jvm.exec) (hb : c.code = cc) (hl : l.stackTraces = false) (hown : s.vm.findClass RX6 = some m.cls) (hts : ∀ w ∈ wd, w.before args s = true)
    (hxo : xOK (adr w9) sa s) (hS : va_S (adr w9) s.heap H locs) (hsize : ls.size = c.maxLocals) (is : Nat) (text : String) (hstr : (is, text) ∈ xTexts)
    (d0 : decode cc pc = .ok (.new 56, 3)) (d3 : decode cc (pc + 3) = .ok (.dup, 1)) (d4 : decode cc (pc + 4) = .ok (.ldc is, 2)) (d6 : decode cc (pc + 6) = .ok (.invokespecial 60, 3)) (d9 : decode cc (pc + 9) = .ok (.athrow, 1))
    (hout : ∀ x ∈ c.exceptionTable.toList, False) (hRf : 6 ≤ R.frames) (hRl : (rest.map fun v => v.category).sum + 82 ≤ R.locals) (hRc : 1 ≤ R.cells) (hRs : 6 ≤ R.slots) (hlocks : meth.locks = false) (hP : va_P G vwCl w H) :
    W p l e R s m args below meth c H locs 0 0 (vx_MQ below Qc (qXx G w9 w 2) args s 1 6 (adr w9)) (F0 m pc ls rest) :=
  k_throw hexec hb hl hown (by decide +kernel) (hts _ wi_229) (hts _ wi_64) (vx_hat (fun w hw => hts w (wd_of (xISE w hw) (List.mem_filter.mp hw).2)) xISEb (fun w hw => va_Nw.use (xBad_on w hw) (hxo.2.2.2 w hw))) xISEg hxo hS hsize is text hstr d0 d3 d4 d6 d9 hout hRf hRl hRc hRs hlocks (by decide) (by decide) hP
theorem k_IAE (hexec : p.tables.exec = Jvm.exec) (hb : c.code = cc) (hl : l.stackTraces = false) (hown : s.vm.findClass RX6 = some m.cls) (hts : ∀ w ∈ wd, w.before args s = true)
    (hxo : xOK (adr w9) sa s) (hS : va_S (adr w9) s.heap H locs) (hsize : ls.size = c.maxLocals) (is : Nat) (text : String) (hstr : (is, text) ∈ xTexts)
    (d0 : decode cc pc = .ok (.new 73, 3)) (d3 : decode cc (pc + 3) = .ok (.dup, 1)) (d4 : decode cc (pc + 4) = .ok (.ldc is, 2)) (d6 : decode cc (pc + 6) = .ok (.invokespecial 77, 3)) (d9 : decode cc (pc + 9) = .ok (.athrow, 1))
    (hout : ∀ x ∈ c.exceptionTable.toList, False) (hRf : 6 ≤ R.frames) (hRl : (rest.map fun v => v.category).sum + 82 ≤ R.locals) (hRc : 1 ≤ R.cells) (hRs : 6 ≤ R.slots) (hlocks : meth.locks = false) (hP : va_P G vwCl w H) :
    W p l e R s m args below meth c H locs 0 0 (vx_MQ below Qc (qXx G w9 w 1) args s 1 6 (adr w9)) (F0 m pc ls rest) :=
  k_throw hexec hb hl hown (by decide +kernel) (hts _ wi_311) (hts _ wi_65) (vx_hat (fun w hw => hts w (wd_of (xIAE w hw) (List.mem_filter.mp hw).2)) xIAEb (fun w hw => va_Nw.use (xBad_on w hw) (hxo.2.2.2 w hw))) xIAEg hxo hS hsize is text hstr d0 d3 d4 d6 d9 hout hRf hRl hRc hRs hlocks (by decide) (by decide) hP
end XTH
