def sh (i : Nat) : Int32 := I32 (24 - 8 * (i : Int))
def bt (x : Int32) (i : Nat) : Nat := ((x >>> (sh i &&& 31)) &&& (255 : Int32)).toBitVec.toNat
set_option maxHeartbeats 1000000 in
set_option maxRecDepth 100000 in
theorem bt_ref (x : Int32) (i : Nat) : (x >>> (sh i &&& 31)) &&& (255 : Int32) = nI (bt x i) := by
  apply Int32.toBitVec_inj.mp
  unfold bt nI
  rw [Int32.toBitVec_ofNat', BitVec.ofNat_toNat, BitVec.setWidth_eq]
set_option maxHeartbeats 1000000 in
set_option maxRecDepth 100000 in
theorem bt_lt (x : Int32) (i : Nat) : bt x i < 256 := by
  unfold bt
  rw [Int32.toBitVec_and, BitVec.toNat_and]
  have : ((255 : Int32).toBitVec).toNat = 255 := by decide
  rw [this]
  exact Nat.lt_of_le_of_lt Nat.and_le_right (by omega)
set_option maxHeartbeats 1000000 in
set_option maxRecDepth 100000 in
theorem bt_cls (x : Int32) {i : Nat} (h : i < 4) : ((x.toUInt32 >>> ((sh i).toUInt32 &&& Int32.toUInt32 31)).toInt32) &&& (255 : Int32) = nI (bt x i) := by
  rw [← bt_ref]
  apply Int32.toBitVec_inj.mp
  have hi : i = 0 ∨ i = 1 ∨ i = 2 ∨ i = 3 := by omega
  have main : ∀ (b : BitVec 32) (s : Nat), s ≤ 24 → (b >>> s) &&& 255#32 = (b.sshiftRight s) &&& 255#32 := by
    intro b s hs
    apply BitVec.eq_of_getLsbD_eq
    intro j hj
    rw [BitVec.getLsbD_and, BitVec.getLsbD_and]
    by_cases c : j < 8
    · rw [BitVec.getLsbD_ushiftRight, BitVec.getLsbD_sshiftRight, if_pos (by omega)]
      have : decide (32 ≤ j) = false := by simp; omega
      rw [this]; simp
    · have : (255#32).getLsbD j = false := by
        have : j = 8 ∨ j = 9 ∨ j = 10 ∨ j = 11 ∨ j = 12 ∨ j = 13 ∨ j = 14 ∨ j = 15 ∨ j = 16 ∨ j = 17 ∨ j = 18 ∨ j = 19 ∨ j = 20 ∨ j = 21 ∨ j = 22 ∨ j = 23 ∨ j = 24 ∨ j = 25 ∨ j = 26 ∨ j = 27 ∨ j = 28 ∨ j = 29 ∨ j = 30 ∨ j = 31 := by omega
        rcases this with h | h | h | h | h | h | h | h | h | h | h | h | h | h | h | h | h | h | h | h | h | h | h | h <;> subst h <;> decide
      rw [this, Bool.and_false, Bool.and_false]
  rcases hi with rfl | rfl | rfl | rfl
  · exact main x.toBitVec 24 (by omega)
  · exact main x.toBitVec 16 (by omega)
  · exact main x.toBitVec 8 (by omega)
  · exact main x.toBitVec 0 (by omega)
set_option maxHeartbeats 1000000 in
set_option maxRecDepth 100000 in
theorem nar_nI {c : Nat} (h : c < 256) : vp_nar .char (((nI c).toUInt32 % 65536).toInt32) = nI c := by
  have : ∀ c : Fin 256, vp_nar .char (((nI c.val).toUInt32 % 65536).toInt32) = nI c.val := by decide +kernel
  exact this ⟨c, h⟩
abbrev Ln := Nat × (Nat → Nat)
def psh (p : Ln) (c : Nat) : Ln := if c = 0 then p else (p.1 + 1, fun i => if i = p.1 then c else p.2 i)
def okL (p : Ln) : Prop := ∀ i, i < p.1 → 1 ≤ p.2 i ∧ p.2 i < 256
def lC (zL : LineS) (p : Ln) : Prop := gL_len zL = nI p.1 ∧ ∀ i, i < p.1 → gL_ch zL i = nI (p.2 i)
def lM (z : MdS) (p : Ln) : Prop := gM_lineSize z = nI p.1 ∧ ∀ i, i < p.1 → i < 100 → gM_line z i = nI (p.2 i)
def mL (z w : MdS) : Prop := gM_up w = gM_up z ∧ gM_down w = gM_down z ∧ gM_outSize w = gM_outSize z ∧ gM_out w = gM_out z ∧ gM_wrongPlace w = gM_wrongPlace z
set_option maxHeartbeats 1000000 in
set_option maxRecDepth 100000 in
theorem mL.rfl' (z : MdS) : mL z z := ⟨rfl, rfl, rfl, rfl, rfl⟩
set_option maxHeartbeats 1000000 in
set_option maxRecDepth 100000 in
theorem mL.trans {a b c : MdS} (h : mL a b) (g : mL b c) : mL a c := ⟨g.1.trans h.1, g.2.1.trans h.2.1, g.2.2.1.trans h.2.2.1, g.2.2.2.1.trans h.2.2.2.1, g.2.2.2.2.trans h.2.2.2.2⟩
set_option maxHeartbeats 1000000 in
set_option maxRecDepth 100000 in
theorem psh_ok {p : Ln} {c : Nat} (h : okL p) (hc : c < 256) : okL (psh p c) := by
  unfold psh
  by_cases x : c = 0
  · rw [if_pos x]; exact h
  · rw [if_neg x]
    intro i hi
    show 1 ≤ (if i = p.1 then c else p.2 i) ∧ (if i = p.1 then c else p.2 i) < 256
    by_cases y : i = p.1
    · rw [if_pos y]; omega
    · rw [if_neg y]; exact h i (by have : i < p.1 + 1 := hi; omega)
set_option maxHeartbeats 1000000 in
set_option maxRecDepth 100000 in
theorem psh_old {p : Ln} {c i : Nat} (hi : i < p.1) : (psh p c).2 i = p.2 i := by
  unfold psh
  by_cases x : c = 0
  · rw [if_pos x]
  · rw [if_neg x]
    show (if i = p.1 then c else p.2 i) = p.2 i
    rw [if_neg (by omega)]
set_option maxHeartbeats 1000000 in
set_option maxRecDepth 100000 in
theorem psh_len (p : Ln) (c : Nat) : (psh p c).1 = p.1 + (if c = 0 then 0 else 1) := by
  unfold psh
  by_cases x : c = 0
  · rw [if_pos x, if_pos x, Nat.add_zero]
  · rw [if_neg x, if_neg x]
def pw4 (p : Ln) (x : Int32) : Ln := psh (psh (psh (psh p (bt x 0)) (bt x 1)) (bt x 2)) (bt x 3)
def nz (c : Nat) : Nat := if c = 0 then 0 else 1
def nz4 (x : Int32) : Nat := nz (bt x 0) + nz (bt x 1) + nz (bt x 2) + nz (bt x 3)
set_option maxHeartbeats 1000000 in
set_option maxRecDepth 100000 in
theorem nz4_le (x : Int32) : nz4 x ≤ 4 := by
  unfold nz4 nz; split <;> split <;> split <;> split <;> omega
set_option maxHeartbeats 1000000 in
set_option maxRecDepth 100000 in
theorem pw4_len (p : Ln) (x : Int32) : (pw4 p x).1 = p.1 + nz4 x := by
  unfold pw4 nz4; rw [psh_len, psh_len, psh_len, psh_len]; unfold nz; omega
set_option maxHeartbeats 1000000 in
set_option maxRecDepth 100000 in
theorem pw4_ok {p : Ln} (h : okL p) (x : Int32) : okL (pw4 p x) := psh_ok (psh_ok (psh_ok (psh_ok h (bt_lt x 0)) (bt_lt x 1)) (bt_lt x 2)) (bt_lt x 3)
set_option maxHeartbeats 1000000 in
set_option maxRecDepth 100000 in
theorem pw4_old {p : Ln} {x : Int32} {i : Nat} (hi : i < p.1) : (pw4 p x).2 i = p.2 i := by
  unfold pw4
  rw [psh_old, psh_old, psh_old, psh_old hi]
  · rw [psh_len]; omega
  · rw [psh_len, psh_len]; omega
  · rw [psh_len, psh_len, psh_len]; omega
set_option maxHeartbeats 1000000 in
set_option maxRecDepth 100000 in
theorem sh_next {i : Nat} (h : i < 4) : sh i + (-8) = sh (i + 1) ∧ sh i - 8 = sh (i + 1) ∧ ¬ sh i < 0 := by
  have : i = 0 ∨ i = 1 ∨ i = 2 ∨ i = 3 := by omega
  rcases this with rfl | rfl | rfl | rfl <;> decide
set_option maxHeartbeats 1000000 in
set_option maxRecDepth 100000 in
theorem nI0 {c : Nat} (h : c < 256) : nI c = 0 ↔ c = 0 := nI_inj (m := 0) (by omega) (by omega)
set_option maxHeartbeats 1000000 in
set_option maxRecDepth 100000 in
theorem chars_step (x : Int32) (n fu : Nat) {i : Nat} (h : i < 4) : f_X1_charactersIn_5 (fu + 1) x (nI n) (sh i) = f_X1_charactersIn_5 fu x (nI (n + nz (bt x i))) (sh (i + 1)) := by
  obtain ⟨s1, s2, s3⟩ := sh_next h
  rw [f_X1_charactersIn_5, if_neg s3, bt_cls x h]
  unfold f_X1_charactersIn_22 nz
  rw [s1, nI_add1]
  by_cases c : bt x i = 0
  · rw [if_pos ((nI0 (bt_lt x i)).mpr c), if_pos c]; rfl
  · rw [if_neg (fun e => c ((nI0 (bt_lt x i)).mp e)), if_neg c]
set_option maxHeartbeats 1000000 in
set_option maxRecDepth 100000 in
theorem chars_eq (x : Int32) : f_X1_charactersIn x = some (nI (nz4 x)) := by
  unfold f_X1_charactersIn
  have e : f_X1_charactersIn_5 (11995 + 1 + 1 + 1 + 1 + 1) x (nI 0) (sh 0) = some (nI (nz4 x)) := by
    rw [chars_step x _ _ (by omega), chars_step x _ _ (by omega), chars_step x _ _ (by omega), chars_step x _ _ (by omega), f_X1_charactersIn_5, if_pos (show sh (0 + 1 + 1 + 1 + 1) < 0 by decide)]
    unfold nz4; congr 2; simp only [Nat.zero_add, Nat.reduceAdd]
  exact e
set_option maxHeartbeats 1000000 in
set_option maxRecDepth 100000 in
theorem app_step (x : Int32) (fu : Nat) {i : Nat} (h : i < 4) {zL : LineS} {p : Ln} (H : lC zL p) (hn : (psh p (bt x i)).1 ≤ 100) : ∃ zL', f_X1_append_3 (fu + 1) zL x (sh i) = f_X1_append_3 fu zL' x (sh (i + 1)) ∧ lC zL' (psh p (bt x i)) := by
  obtain ⟨s1, s2, s3⟩ := sh_next h
  rw [f_X1_append_3, if_neg s3, bt_cls x h]
  simp only [Option.bind_some]
  unfold f_X1_append_49
  rw [s1]
  rw [psh_len] at hn
  by_cases c : bt x i = 0
  · rw [if_pos ((nI0 (bt_lt x i)).mpr c)]
    exact ⟨zL, rfl, by unfold psh; rw [if_pos c]; exact H⟩
  · rw [if_neg (fun e => c ((nI0 (bt_lt x i)).mp e))]
    rw [if_neg c] at hn
    rw [H.1, if_neg (fun e => by have := (qI_le (n := 100) (by omega) (by omega)).mp e; omega), if_pos ((inb_nI (by omega)).mpr (by omega)), nI_nat (by omega), nar_nI (bt_lt x i)]
    refine ⟨_, rfl, ?_⟩
    unfold psh
    rw [if_neg c]
    refine ⟨?_, fun j hj => ?_⟩
    · show gL_len (uL_ch zL _) + 1 = nI (p.1 + 1)
      rw [← nI_add1, ← H.1]; rfl
    · show upd (gL_ch zL) p.1 (nI (bt x i)) j = nI (if j = p.1 then bt x i else p.2 j)
      by_cases y : j = p.1
      · rw [y, upd_self, if_pos rfl]
      · rw [upd_ne _ _ y, if_neg y]; exact H.2 j (by have : j < p.1 + 1 := hj; omega)
set_option maxHeartbeats 1000000 in
set_option maxRecDepth 100000 in
theorem app_eq (x : Int32) {zL : LineS} {p : Ln} (H : lC zL p) (hn : (pw4 p x).1 ≤ 100) : ∃ zL', f_X1_append zL x = some zL' ∧ lC zL' (pw4 p x) := by
  unfold f_X1_append
  unfold pw4 at hn ⊢
  have l3 := hn
  rw [psh_len] at hn
  have l2 := hn
  rw [psh_len] at hn
  have l1 := hn
  rw [psh_len] at hn
  obtain ⟨z1, a1, a2⟩ := app_step x 11999 (i := 0) (by omega) H (by omega)
  obtain ⟨z2, b1, b2⟩ := app_step x 11998 (i := 1) (by omega) a2 (by omega)
  obtain ⟨z3, c1, c2⟩ := app_step x 11997 (i := 2) (by omega) b2 (by omega)
  obtain ⟨z4, d1, d2⟩ := app_step x 11996 (i := 3) (by omega) c2 (by omega)
  refine ⟨z4, ?_, d2⟩
  have e : f_X1_append_3 (11999 + 1) zL x (sh 0) = some z4 := by
    rw [a1, b1, c1, d1, f_X1_append_3, if_pos (show sh (3 + 1) < 0 by decide)]
  exact e
set_option maxHeartbeats 1000000 in
set_option maxRecDepth 100000 in
theorem put_step (x : Int32) {i : Nat} (h : i < 4) {z : MdS} {p : Ln} (H : lM z p) (hp : p.1 ≤ 200) : ∃ z', f_X7_putCell z x (sh i) = some z' ∧ lM z' (psh p (bt x i)) ∧ mL z z' := by
  unfold f_X7_putCell
  rw [bt_ref]
  simp only [Option.bind_some]
  have hle : nI (bt x i) ≤ 0 ↔ bt x i = 0 := by
    have := qI_le (n := bt x i) (m := 0) (by have := bt_lt x i; omega) (by omega)
    constructor
    · intro e; have := this.mp e; omega
    · intro e; exact this.mpr (by omega)
  unfold f_X7_putCell_32 psh
  by_cases c : bt x i = 0
  · rw [if_pos (hle.mpr c), if_pos c]; exact ⟨z, rfl, H, mL.rfl' z⟩
  · rw [if_neg (fun e => c (hle.mp e)), if_neg c, H.1]
    have hle2 : (100 : Int32) ≤ nI p.1 ↔ 100 ≤ p.1 := qI_le (n := 100) (by omega) (by omega)
    by_cases d : 100 ≤ p.1
    · rw [if_pos (hle2.mpr d)]
      refine ⟨_, rfl, ⟨nI_add1 _, fun j hj hj' => ?_⟩, ⟨rfl, rfl, rfl, rfl, rfl⟩⟩
      show gM_line z j = nI (if j = p.1 then bt x i else p.2 j)
      rw [if_neg (by omega)]; exact H.2 j (by omega) hj'
    · rw [if_neg (fun e => d (hle2.mp e)), if_pos ((inb_nI (by omega)).mpr (by omega)), nI_nat (by omega), nar_nI (bt_lt x i)]
      refine ⟨_, rfl, ⟨?_, fun j hj hj' => ?_⟩, ⟨rfl, rfl, rfl, rfl, rfl⟩⟩
      · show gM_lineSize (uM_line z _) + 1 = nI (p.1 + 1)
        rw [← nI_add1, ← H.1]; rfl
      · show upd (gM_line z) p.1 (nI (bt x i)) j = nI (if j = p.1 then bt x i else p.2 j)
        by_cases y : j = p.1
        · rw [y, upd_self, if_pos rfl]
        · rw [upd_ne _ _ y, if_neg y]; exact H.2 j (by have : j < p.1 + 1 := hj; omega) hj'
set_option maxHeartbeats 1000000 in
set_option maxRecDepth 100000 in
theorem t63_eq (kb : MdS → Int32 → Int32 → Int32 → Int32 → Int32 → Int32 → Int32 → Option (Int32 × MdS)) (x1 x2 x3 x4 x5 x6 x7 x : Int32) {z : MdS} {p : Ln} (H : lM z p) (hp : p.1 ≤ 190) : ∃ z', f_X7_type_57 kb z x1 x2 x3 x4 x5 x6 x7 x = kb z' x1 x2 x3 x4 x5 x6 (x7 + 1) ∧ lM z' (pw4 p x) ∧ mL z z' := by
  have hz : ∀ i, (if bt x i = 0 then 0 else 1) ≤ 1 := fun i => by split <;> omega
  have hz0 := hz 0; have hz1 := hz 1; have hz2 := hz 2
  obtain ⟨z1, a1, a2, a3⟩ := put_step x (i := 0) (by omega) H (by omega)
  obtain ⟨z2, b1, b2, b3⟩ := put_step x (i := 1) (by omega) a2 (by rw [psh_len]; omega)
  obtain ⟨z3, c1, c2, c3⟩ := put_step x (i := 2) (by omega) b2 (by rw [psh_len, psh_len]; omega)
  obtain ⟨z4, d1, d2, d3⟩ := put_step x (i := 3) (by omega) c2 (by rw [psh_len, psh_len, psh_len]; omega)
  refine ⟨z4, ?_, d2, ((a3.trans b3).trans c3).trans d3⟩
  unfold f_X7_type_57
  have st : ∀ (fu : Nat) (z z' : MdS) (i : Nat), i < 4 → f_X7_putCell z x (sh i) = some z' → f_X7_type_63 kb (fu + 1) z x1 x2 x3 x4 x5 x6 x7 x (sh i) = f_X7_type_63 kb fu z' x1 x2 x3 x4 x5 x6 x7 x (sh (i + 1)) := by
    intro fu z z' i hi e
    obtain ⟨s1, s2, s3⟩ := sh_next hi
    rw [f_X7_type_63, if_neg s3, e]
    simp only [Option.bind_some]
    rw [s2]
  have e : f_X7_type_63 kb (11995 + 1 + 1 + 1 + 1 + 1) z x1 x2 x3 x4 x5 x6 x7 x (sh 0) = kb z4 x1 x2 x3 x4 x5 x6 (x7 + 1) := by
    rw [st _ z z1 0 (by omega) a1, st _ z1 z2 1 (by omega) b1, st _ z2 z3 2 (by omega) c1, st _ z3 z4 3 (by omega) d1, f_X7_type_63, if_pos (show sh (3 + 1) < 0 by decide)]
  exact e
set_option maxHeartbeats 1000000 in
set_option maxRecDepth 100000 in
theorem mL.slots {z w : MdS} (h : mL z w) {s : SumS} {r : Nat} (g : slR s z r) : slR s w r := by
  obtain ⟨n, K, F, a, b, c⟩ := g
  exact ⟨n, K, F, a, fun i hi => by rw [h.1, h.2.1]; exact b i hi, c⟩
set_option maxHeartbeats 1000000 in
set_option maxRecDepth 100000 in
theorem mL.out {z w : MdS} (h : mL z w) {s : WrS} (g : otR s z) : otR s w := by
  obtain ⟨n, a, b, c, d⟩ := g
  exact ⟨n, a, b, by rw [h.2.2.1]; exact c, by rw [h.2.2.2.1]; exact d⟩
set_option maxHeartbeats 1000000 in
set_option maxRecDepth 100000 in
theorem type_both {zD : DeskS} {zM : MdS} (h : Sim zD zM) (a1 a2 a3 a4 a5 : Int32) : opR (f_X6_type zD a1 a2 a3 a4 a5) (f_X7_type zM a1 a2 a3 a4 a5) False True 1 := by
  obtain ⟨hsl, ⟨n, l1, l2, l3, l4⟩, hot, hpl⟩ := h
  have hcl : ∃ q : Nat → Nat, ∀ i, i < n → gM_line zM i = nI (q i) ∧ 1 ≤ q i ∧ q i < 256 := by
    refine ⟨fun i => if h : i < n then Classical.choose (l4 i h).2 else 0, fun i hi => ?_⟩
    have := Classical.choose_spec (l4 i hi).2
    show gM_line zM i = nI (if h : i < n then Classical.choose (l4 i h).2 else 0) ∧ 1 ≤ (if h : i < n then Classical.choose (l4 i h).2 else 0) ∧ (if h : i < n then Classical.choose (l4 i h).2 else 0) < 256
    rw [dif_pos hi]
    exact ⟨this.2.2, this.1, this.2.1⟩
  obtain ⟨q, hq⟩ := hcl
  let p0 : Ln := (n, q)
  have C0 : lC (gD_line zD) p0 := ⟨l2, fun i hi => ((l4 i hi).1).trans (hq i hi).1⟩
  have M0 : lM zM p0 := ⟨l3, fun i hi _ => (hq i hi).1⟩
  have O0 : okL p0 := fun i hi => (hq i hi).2
  have g1 := pw4_len p0 a1
  have g2 := pw4_len (pw4 p0 a1) a2
  have g3 := pw4_len (pw4 (pw4 p0 a1) a2) a3
  have g4 := pw4_len (pw4 (pw4 (pw4 p0 a1) a2) a3) a4
  have g5 := pw4_len (pw4 (pw4 (pw4 (pw4 p0 a1) a2) a3) a4) a5
  have b1 := nz4_le a1
  have b2 := nz4_le a2
  have b3 := nz4_le a3
  have b4 := nz4_le a4
  have b5 := nz4_le a5
  have hp0 : p0.1 = n := rfl
  let kb : Nat → MdS → Int32 → Int32 → Int32 → Int32 → Int32 → Int32 → Int32 → Option (Int32 × MdS) := fun fu zM_ x1_ x2_ x3_ x4_ x5_ x6_ x7_ => f_X7_type_9 fu zM_ x1_ x2_ x3_ x4_ x5_ x6_ x7_
  obtain ⟨z1, r1, m1, s1⟩ := t63_eq (kb 11999) a1 a2 a3 a4 a5 (nI n) 0 a1 M0 (by omega)
  obtain ⟨z2, r2, m2, s2⟩ := t63_eq (kb 11998) a1 a2 a3 a4 a5 (nI n) (0 + 1) a2 m1 (by omega)
  obtain ⟨z3, r3, m3, s3⟩ := t63_eq (kb 11997) a1 a2 a3 a4 a5 (nI n) (0 + 1 + 1) a3 m2 (by omega)
  obtain ⟨z4, r4, m4, s4⟩ := t63_eq (kb 11996) a1 a2 a3 a4 a5 (nI n) (0 + 1 + 1 + 1) a4 m3 (by omega)
  obtain ⟨z5, r5, m5, s5⟩ := t63_eq (kb 11995) a1 a2 a3 a4 a5 (nI n) (0 + 1 + 1 + 1 + 1) a5 m4 (by omega)
  have hM : f_X7_type zM a1 a2 a3 a4 a5 = (if gM_lineSize z5 ≤ (100 : Int32) then f_X7_type_107 z5 (nI n) 0 else f_X7_type_107 z5 (nI n) 1) := by
    unfold f_X7_type
    rw [l3, Option.bind_some]
    show f_X7_type_9 (11999 + 1) zM a1 a2 a3 a4 a5 (nI n) 0 = _
    rw [f_X7_type_9, if_neg (by decide), if_neg (by decide), r1]
    show f_X7_type_9 (11998 + 1) z1 a1 a2 a3 a4 a5 (nI n) (0 + 1) = _
    rw [f_X7_type_9, if_neg (by decide), if_pos (by decide), if_neg (by decide), r2]
    show f_X7_type_9 (11997 + 1) z2 a1 a2 a3 a4 a5 (nI n) (0 + 1 + 1) = _
    rw [f_X7_type_9, if_neg (by decide), if_pos (by decide), if_pos (by decide), if_neg (by decide), r3]
    show f_X7_type_9 (11996 + 1) z3 a1 a2 a3 a4 a5 (nI n) (0 + 1 + 1 + 1) = _
    rw [f_X7_type_9, if_neg (by decide), if_pos (by decide), if_pos (by decide), if_pos (by decide), if_neg (by decide), r4]
    show f_X7_type_9 (11995 + 1) z4 a1 a2 a3 a4 a5 (nI n) (0 + 1 + 1 + 1 + 1) = _
    rw [f_X7_type_9, if_neg (by decide), if_pos (by decide), if_pos (by decide), if_pos (by decide), if_pos (by decide), r5]
    show f_X7_type_9 (11994 + 1) z5 a1 a2 a3 a4 a5 (nI n) (0 + 1 + 1 + 1 + 1 + 1) = _
    rw [f_X7_type_9, if_pos (by decide)]
  have ms := (((s1.trans s2).trans s3).trans s4).trans s5
  generalize hP : pw4 (pw4 (pw4 (pw4 (pw4 p0 a1) a2) a3) a4) a5 = P at *
  have hle : gM_lineSize z5 ≤ (100 : Int32) ↔ P.1 ≤ 100 := by rw [m5.1]; exact qI_le (m := 100) (by omega) (by omega)
  unfold f_X6_type f_X1_length
  rw [chars_eq, chars_eq, chars_eq, chars_eq, chars_eq, l2]
  simp only [Option.bind_some, qI_add]
  rw [hM]
  have hle2 : nI (n + (nz4 a1 + nz4 a2 + nz4 a3 + nz4 a4 + nz4 a5)) ≤ (100 : Int32) ↔ P.1 ≤ 100 := by
    rw [show n + (nz4 a1 + nz4 a2 + nz4 a3 + nz4 a4 + nz4 a5) = P.1 by omega]; exact qI_le (m := 100) (by omega) (by omega)
  by_cases c : P.1 ≤ 100
  · rw [if_pos (hle.mpr c), if_pos (hle2.mpr c)]
    obtain ⟨y1, t1, u1⟩ := app_eq a1 C0 (by omega)
    obtain ⟨y2, t2, u2⟩ := app_eq a2 u1 (by omega)
    obtain ⟨y3, t3, u3⟩ := app_eq a3 u2 (by omega)
    obtain ⟨y4, t4, u4⟩ := app_eq a4 u3 (by omega)
    obtain ⟨y5, t5, u5⟩ := app_eq a5 u4 (by rw [hP]; exact c)
    rw [hP] at u5
    rw [t1, Option.bind_some, show f_X1_append (gD_line (uD_line zD y1)) a2 = some y2 from t2, Option.bind_some, show f_X1_append (gD_line (uD_line (uD_line zD y1) y2)) a3 = some y3 from t3, Option.bind_some, show f_X1_append (gD_line (uD_line (uD_line (uD_line zD y1) y2) y3)) a4 = some y4 from t4, Option.bind_some, show f_X1_append (gD_line (uD_line (uD_line (uD_line (uD_line zD y1) y2) y3) y4)) a5 = some y5 from t5, Option.bind_some]
    unfold f_X7_type_107
    rw [refused0, Option.bind_some, if_pos rfl]
    have OP : okL P := by rw [← hP]; exact pw4_ok (pw4_ok (pw4_ok (pw4_ok (pw4_ok O0 a1) a2) a3) a4) a5
    refine ⟨0, gL_len y5, _, gM_lineSize z5, uM_refusal z5 0, rfl, rfl, ⟨fun s hs => ms.slots (hsl s hs), ⟨P.1, c, u5.1, m5.1, fun i hi => ⟨(u5.2 i hi).trans (m5.2 i hi (by omega)).symm, P.2 i, (OP i hi).1, (OP i hi).2, m5.2 i hi (by omega)⟩⟩, ms.out hot, ?_⟩, Or.inl ⟨rfl, rfl, u5.1.trans m5.1.symm⟩⟩
    show gR_place (gD_rd zD) = gM_wrongPlace z5
    rw [ms.2.2.2.2]; exact hpl
  · rw [if_neg (fun e => c (hle.mp e)), if_neg (fun e => c (hle2.mp e))]
    unfold f_X7_type_107
    rw [refused1, Option.bind_some, if_neg (show ¬ (1 : Int32) = 0 by decide)]
    have hold : ∀ i, i < n → P.2 i = q i := by
      intro i hi
      rw [← hP, pw4_old (by omega), pw4_old (by omega), pw4_old (by omega), pw4_old (by omega), pw4_old hi]
    refine ⟨2, 0, zD, 0, uM_lineSize (uM_refusal z5 1) (nI n), rfl, rfl, ⟨fun s hs => ms.slots (hsl s hs), ⟨n, l1, l2, rfl, fun i hi => ?_⟩, ms.out hot, ?_⟩, Or.inr (Or.inr ⟨rfl, rfl, trivial⟩)⟩
    · have e : gM_line z5 i = nI (q i) := by rw [m5.2 i (by omega) (by omega), hold i hi]
      refine ⟨?_, q i, (hq i hi).2.1, (hq i hi).2.2, e⟩
      show gL_ch (gD_line zD) i = gM_line z5 i
      rw [e, (l4 i hi).1, (hq i hi).1]
    · show gR_place (gD_rd zD) = gM_wrongPlace z5
      rw [ms.2.2.2.2]; exact hpl
def ap (p : Ln) (c : Nat) : Ln := (p.1 + 1, fun i => if i = p.1 then c else p.2 i)
def aps (p : Ln) (l : List Nat) : Ln := l.foldl ap p
set_option maxHeartbeats 1000000 in
set_option maxRecDepth 100000 in
theorem aps_nil (p : Ln) : aps p [] = p := rfl
set_option maxHeartbeats 1000000 in
set_option maxRecDepth 100000 in
theorem aps_cons (p : Ln) (c : Nat) (l : List Nat) : aps p (c :: l) = aps (ap p c) l := rfl
set_option maxHeartbeats 1000000 in
set_option maxRecDepth 100000 in
theorem aps_append (p : Ln) (l l' : List Nat) : aps p (l ++ l') = aps (aps p l) l' := List.foldl_append
set_option maxHeartbeats 1000000 in
set_option maxRecDepth 100000 in
theorem aps_len (p : Ln) (l : List Nat) : (aps p l).1 = p.1 + l.length := by
  induction l generalizing p with
  | nil => rfl
  | cons c l ih => rw [aps_cons, ih]; show p.1 + 1 + l.length = p.1 + (l.length + 1); omega
def cw (zW : WrS) (p : Ln) : Prop := gW_len zW = nI p.1 ∧ ∀ i, i < p.1 → gW_ch zW i = nI (p.2 i) ∧ p.2 i < 256
def mw (z : MdS) (p : Ln) : Prop := gM_outSize z = nI p.1 ∧ ∀ i, i < p.1 → gM_out z i = nI (p.2 i) ∧ p.2 i < 256
def mO (z w : MdS) : Prop := gM_up w = gM_up z ∧ gM_down w = gM_down z ∧ gM_lineSize w = gM_lineSize z ∧ gM_line w = gM_line z ∧ gM_wrongPlace w = gM_wrongPlace z ∧ gM_refusal w = gM_refusal z
set_option maxHeartbeats 1000000 in
set_option maxRecDepth 100000 in
theorem mO.rfl' (z : MdS) : mO z z := ⟨rfl, rfl, rfl, rfl, rfl, rfl⟩
set_option maxHeartbeats 1000000 in
set_option maxRecDepth 100000 in
theorem mO.trans {a b c : MdS} (h : mO a b) (g : mO b c) : mO a c := ⟨g.1.trans h.1, g.2.1.trans h.2.1, g.2.2.1.trans h.2.2.1, g.2.2.2.1.trans h.2.2.2.1, g.2.2.2.2.1.trans h.2.2.2.2.1, g.2.2.2.2.2.trans h.2.2.2.2.2⟩
def CW (f : WrS → Option WrS) (s : List Nat) : Prop := ∀ zW p, cw zW p → p.1 + s.length ≤ 1200 → ∃ zW', f zW = some zW' ∧ cw zW' (aps p s)
def RW (f : MdS → Option MdS) (s : List Nat) : Prop := ∀ z p, mw z p → p.1 + s.length ≤ 1200 → ∃ z', f z = some z' ∧ mw z' (aps p s) ∧ mO z z'
set_option maxHeartbeats 1000000 in
set_option maxRecDepth 100000 in
theorem CW.nil : CW (fun z => some z) [] := fun z p h _ => ⟨z, rfl, h⟩
set_option maxHeartbeats 1000000 in
set_option maxRecDepth 100000 in
theorem RW.nil : RW (fun z => some z) [] := fun z p h _ => ⟨z, rfl, h, mO.rfl' z⟩
set_option maxHeartbeats 1000000 in
set_option maxRecDepth 100000 in
theorem CW.seq {f g : WrS → Option WrS} {s t : List Nat} (hf : CW f s) (hg : CW g t) : CW (fun z => (f z).bind g) (s ++ t) := by
  intro z p h hl
  rw [List.length_append] at hl
  obtain ⟨z1, e1, h1⟩ := hf z p h (by omega)
  obtain ⟨z2, e2, h2⟩ := hg z1 _ h1 (by rw [aps_len]; omega)
  exact ⟨z2, by show (f z).bind g = some z2; rw [e1]; exact e2, by rw [aps_append]; exact h2⟩
set_option maxHeartbeats 1000000 in
set_option maxRecDepth 100000 in
theorem RW.seq {f g : MdS → Option MdS} {s t : List Nat} (hf : RW f s) (hg : RW g t) : RW (fun z => (f z).bind g) (s ++ t) := by
  intro z p h hl
  rw [List.length_append] at hl
  obtain ⟨z1, e1, h1, o1⟩ := hf z p h (by omega)
  obtain ⟨z2, e2, h2, o2⟩ := hg z1 _ h1 (by rw [aps_len]; omega)
  exact ⟨z2, by show (f z).bind g = some z2; rw [e1]; exact e2, by rw [aps_append]; exact h2, o1.trans o2⟩
set_option maxHeartbeats 1000000 in
set_option maxRecDepth 100000 in
theorem nar_ch {c : Nat} (h : c < 256) : vp_nar .char (nI c) = nI c := by
  have : ∀ c : Fin 256, vp_nar .char (nI c.val) = nI c.val := by decide +kernel
  exact this ⟨c, h⟩
set_option maxHeartbeats 1000000 in
set_option maxRecDepth 100000 in
theorem CW.ch {c : Nat} (hc : c < 256) : CW (fun z => f_X5_append z (nI c)) [c] := by
  intro z p h hl
  have hl' : p.1 < 1200 := by have : ([c] : List Nat).length = 1 := rfl
                              omega
  show ∃ zW', f_X5_append z (nI c) = some zW' ∧ cw zW' (aps p [c])
  unfold f_X5_append
  rw [h.1, if_neg (fun e => by have := (qI_le (n := 1200) (by omega) (by omega)).mp e; omega), if_pos ((inb_nI (by omega)).mpr hl'), nI_nat (by omega), nar_ch hc]
  refine ⟨_, rfl, ?_, fun i hi => ?_⟩
  · show gW_len (uW_ch z _) + 1 = nI (p.1 + 1)
    rw [← nI_add1, ← h.1]; rfl
  · show upd (gW_ch z) p.1 (nI c) i = nI (if i = p.1 then c else p.2 i) ∧ (if i = p.1 then c else p.2 i) < 256
    by_cases y : i = p.1
    · rw [y, upd_self, if_pos rfl]; exact ⟨rfl, hc⟩
    · rw [upd_ne _ _ y, if_neg y]; exact h.2 i (by have : i < p.1 + 1 := hi; omega)
set_option maxHeartbeats 1000000 in
set_option maxRecDepth 100000 in
theorem RW.ch {c : Nat} (hc : c < 256) : RW (fun z => f_X7_put z (nI c)) [c] := by
  intro z p h hl
  have hl' : p.1 < 1200 := by have : ([c] : List Nat).length = 1 := rfl
                              omega
  show ∃ z', f_X7_put z (nI c) = some z' ∧ mw z' (aps p [c]) ∧ mO z z'
  unfold f_X7_put
  rw [h.1, if_pos ((inb_nI (by omega)).mpr (by omega)), nI_nat (by omega), nar_ch hc]
  refine ⟨_, rfl, ⟨?_, fun i hi => ?_⟩, ⟨rfl, rfl, rfl, rfl, rfl, rfl⟩⟩
  · show gM_outSize (uM_out z _) + 1 = nI (p.1 + 1)
    rw [← nI_add1, ← h.1]; rfl
  · show upd (gM_out z) p.1 (nI c) i = nI (if i = p.1 then c else p.2 i) ∧ (if i = p.1 then c else p.2 i) < 256
    by_cases y : i = p.1
    · rw [y, upd_self, if_pos rfl]; exact ⟨rfl, hc⟩
    · rw [upd_ne _ _ y, if_neg y]; exact h.2 i (by have : i < p.1 + 1 := hi; omega)
def dgs (v : Nat) : Nat → List Nat
  | 0 => [48 + v % 10]
  | t + 1 => (48 + v / 10 ^ (t + 1) % 10) :: dgs v t
set_option maxHeartbeats 1000000 in
set_option maxRecDepth 100000 in
theorem dgs_len (v t : Nat) : (dgs v t).length = t + 1 := by
  induction t with
  | zero => rfl
  | succ t ih => show (dgs v t).length + 1 = _; rw [ih]
def dj (v : Nat) : Nat := if v < 10 then 0 else if v < 100 then 1 else if v < 1000 then 2 else if v < 10000 then 3 else if v < 100000 then 4 else if v < 1000000 then 5 else if v < 10000000 then 6 else if v < 100000000 then 7 else if v < 1000000000 then 8 else if v < 10000000000 then 9 else 10
set_option maxHeartbeats 1000000 in
set_option maxRecDepth 100000 in
theorem dj_spec {v : Nat} (h : v < 100000000000) : dj v ≤ 10 ∧ v < 10 ^ (dj v + 1) ∧ (dj v = 0 ∨ 10 ^ dj v ≤ v) := by
  unfold dj
  by_cases h0 : v < 10
  · rw [if_pos h0]; refine ⟨by omega, by omega, by omega⟩
  rw [if_neg h0]
  by_cases h1 : v < 100
  · rw [if_pos h1]; refine ⟨by omega, by omega, by omega⟩
  rw [if_neg h1]
  by_cases h2 : v < 1000
  · rw [if_pos h2]; refine ⟨by omega, by omega, by omega⟩
  rw [if_neg h2]
  by_cases h3 : v < 10000
  · rw [if_pos h3]; refine ⟨by omega, by omega, by omega⟩
  rw [if_neg h3]
  by_cases h4 : v < 100000
  · rw [if_pos h4]; refine ⟨by omega, by omega, by omega⟩
  rw [if_neg h4]
  by_cases h5 : v < 1000000
  · rw [if_pos h5]; refine ⟨by omega, by omega, by omega⟩
  rw [if_neg h5]
  by_cases h6 : v < 10000000
  · rw [if_pos h6]; refine ⟨by omega, by omega, by omega⟩
  rw [if_neg h6]
  by_cases h7 : v < 100000000
  · rw [if_pos h7]; refine ⟨by omega, by omega, by omega⟩
  rw [if_neg h7]
  by_cases h8 : v < 1000000000
  · rw [if_pos h8]; refine ⟨by omega, by omega, by omega⟩
  rw [if_neg h8]
  by_cases h9 : v < 10000000000
  · rw [if_pos h9]; refine ⟨by omega, by omega, by omega⟩
  rw [if_neg h9]
  refine ⟨by omega, by omega, by omega⟩
def numS (v : Nat) : List Nat := dgs v (dj v)
set_option maxHeartbeats 1000000 in
set_option maxRecDepth 100000 in
theorem numS_len (v : Nat) : (numS v).length = dj v + 1 := dgs_len v _
set_option maxHeartbeats 1000000 in
set_option maxRecDepth 100000 in
theorem p10_lt {t : Nat} (h : t ≤ 11) : 10 ^ t ≤ 100000000000 ∧ 1 ≤ 10 ^ t := by
  have h1 : 10 ^ t ≤ 10 ^ 11 := Nat.pow_le_pow_right (by omega) h
  have h2 : 0 < 10 ^ t := Nat.pow_pos (by omega)
  exact ⟨by simpa using h1, h2⟩
set_option maxHeartbeats 1000000 in
set_option maxRecDepth 100000 in
theorem I64_ndiv {a b : Nat} (h : a < 9223372036854775808) (h' : b < 9223372036854775808) : I64 (a : Int) / I64 (b : Int) = I64 ((a / b : Nat) : Int) := by
  rw [I64_div (nn_r64 h) (nn_r64 h') (tdiv_r64 (by omega) (by omega)), ← Int.ofNat_tdiv]
set_option maxHeartbeats 1000000 in
set_option maxRecDepth 100000 in
theorem digit_eq {v t : Nat} (hv : v < 100000000000) (ht : t ≤ 10) : ((((((48 : Int64) + ((I64 (v : Int) / I64 ((10 ^ t : Nat) : Int)) - (I64 (v : Int) / I64 ((10 ^ t : Nat) : Int)) / (10 : Int64) * (10 : Int64)))).toInt32).toUInt32 % 65536).toInt32) = nI (48 + v / 10 ^ t % 10) := by
  have hp := p10_lt (t := t) (by omega)
  have hd : v / 10 ^ t ≤ v := Nat.div_le_self _ _
  have e10 : (10 : Int64) = I64 ((10 : Nat) : Int) := rfl
  rw [I64_ndiv (by omega) (by omega), e10, I64_nmod (by omega) (by omega) (by omega)]
  have : ∀ d : Fin 10, ((((((48 : Int64) + I64 ((d.val : Nat) : Int))).toInt32).toUInt32 % 65536).toInt32) = nI (48 + d.val) := by decide +kernel
  exact this ⟨v / 10 ^ t % 10, Nat.mod_lt _ (by omega)⟩
set_option maxHeartbeats 1000000 in
set_option maxRecDepth 100000 in
theorem p10_pos {t : Nat} (ht : t ≤ 10) : ¬ I64 ((10 ^ t : Nat) : Int) ≤ 0 ∧ ¬ I64 ((10 ^ t : Nat) : Int) = 0 := by
  have hp := p10_lt (t := t) (by omega)
  exact ⟨fun e => by have := (I64_le (nn_r64 (by omega)) r64_0).mp e; omega, fun e => by have := (I64n_eq0 (by omega)).mp e; omega⟩
set_option maxHeartbeats 1000000 in
set_option maxRecDepth 100000 in
theorem p10_div {t : Nat} (ht : t + 1 ≤ 10) : I64 ((10 ^ (t + 1) : Nat) : Int) / (10 : Int64) = I64 ((10 ^ t : Nat) : Int) := by
  have hp := p10_lt (t := t + 1) (by omega)
  have e10 : (10 : Int64) = I64 ((10 : Nat) : Int) := rfl
  rw [e10, I64_ndiv (by omega) (by omega), Nat.pow_succ, Nat.mul_div_cancel _ (by omega)]
set_option maxHeartbeats 1000000 in
set_option maxRecDepth 100000 in
theorem cw_digs {v : Nat} (hv : v < 100000000000) : ∀ (t fu : Nat), t ≤ 10 → t + 1 < fu → CW (fun z => f_X5_writeNumber_25 fu z (I64 (v : Int)) 1 (I64 ((10 ^ t : Nat) : Int))) (dgs v t) := by
  intro t
  induction t with
  | zero =>
    intro fu ht hf z p h hl
    obtain ⟨fu, rfl⟩ : ∃ f, fu = f + 2 := ⟨fu - 2, by omega⟩
    have hd : 48 + v / 10 ^ 0 % 10 < 256 := by omega
    obtain ⟨z', e1, e2⟩ := CW.ch hd z p h (by rw [dgs_len] at hl; exact hl)
    have e1' : f_X5_append z (nI (48 + v / 10 ^ 0 % 10)) = some z' := e1
    refine ⟨z', ?_, ?_⟩
    · show f_X5_writeNumber_25 (fu + 1 + 1) z (I64 (v : Int)) 1 (I64 ((10 ^ 0 : Nat) : Int)) = some z'
      rw [f_X5_writeNumber_25, if_neg (p10_pos ht).1, if_pos (show ¬ (1 : Int32) = 0 by decide)]
      unfold f_X5_writeNumber_51 f_X5_writeNumber_56 f_X5_writeNumber_81
      rw [if_neg (show ¬ (1 : Int32) = 0 by decide), if_pos (p10_pos ht).2, digit_eq hv ht, e1']
      simp only [Option.bind_some]
      rw [f_X5_writeNumber_25, if_pos (show I64 ((10 ^ 0 : Nat) : Int) / 10 ≤ 0 by decide)]
    · have : dgs v 0 = [48 + v / 10 ^ 0 % 10] := by rw [Nat.pow_zero, Nat.div_one]; rfl
      rw [this]; exact e2
  | succ t ih =>
    intro fu ht hf z p h hl
    obtain ⟨fu, rfl⟩ : ∃ f, fu = f + 1 := ⟨fu - 1, by omega⟩
    rw [dgs_len] at hl
    have hd : 48 + v / 10 ^ (t + 1) % 10 < 256 := by omega
    obtain ⟨z1, e1, e2⟩ := CW.ch hd z p h (by show p.1 + 1 ≤ 1200; omega)
    have e1' : f_X5_append z (nI (48 + v / 10 ^ (t + 1) % 10)) = some z1 := e1
    obtain ⟨z2, e3, e4⟩ := ih fu (by omega) (by omega) z1 _ e2 (by rw [dgs_len, aps_len]; show p.1 + 1 + (t + 1) ≤ 1200; omega)
    refine ⟨z2, ?_, e4⟩
    show f_X5_writeNumber_25 (fu + 1) z (I64 (v : Int)) 1 (I64 ((10 ^ (t + 1) : Nat) : Int)) = some z2
    rw [f_X5_writeNumber_25, if_neg (p10_pos ht).1, if_pos (show ¬ (1 : Int32) = 0 by decide)]
    unfold f_X5_writeNumber_51 f_X5_writeNumber_56 f_X5_writeNumber_81
    rw [if_neg (show ¬ (1 : Int32) = 0 by decide), if_pos (p10_pos ht).2, digit_eq hv ht, e1']
    simp only [Option.bind_some]
    rw [p10_div ht]
    exact e3
set_option maxHeartbeats 1000000 in
set_option maxRecDepth 100000 in
theorem cw_start {v : Nat} (hv : v < 100000000000) : ∀ (t fu : Nat), t ≤ 10 → dj v ≤ t → t + 1 < fu → CW (fun z => f_X5_writeNumber_25 fu z (I64 (v : Int)) 0 (I64 ((10 ^ t : Nat) : Int))) (numS v) := by
  obtain ⟨j1, j2, j3⟩ := dj_spec hv
  have begins : ∀ fu z, dj v + 1 < fu → f_X5_writeNumber_25 fu z (I64 (v : Int)) 0 (I64 ((10 ^ dj v : Nat) : Int)) = f_X5_writeNumber_25 fu z (I64 (v : Int)) 1 (I64 ((10 ^ dj v : Nat) : Int)) := by
    intro fu z hf
    obtain ⟨fu, rfl⟩ : ∃ f, fu = f + 1 := ⟨fu - 1, by omega⟩
    have hp := p10_lt (t := dj v) (by omega)
    rw [f_X5_writeNumber_25, f_X5_writeNumber_25, if_neg (p10_pos j1).1, if_neg (p10_pos j1).1, if_neg (show ¬ ¬ (0 : Int32) = 0 by decide), if_pos (show ¬ (1 : Int32) = 0 by decide)]
    by_cases c : 10 ^ dj v ≤ v
    · rw [if_pos ((I64_le (nn_r64 (by omega)) (nn_r64 (by omega))).mpr (by omega))]
    · rw [if_neg (fun e => by have := (I64_le (nn_r64 (by omega)) (nn_r64 (by omega))).mp e; omega)]
      have : dj v = 0 := by omega
      rw [this, if_neg (show ¬ ¬ I64 ((10 ^ 0 : Nat) : Int) = 1 by decide)]
  intro t
  induction t with
  | zero =>
    intro fu ht hj hf z p h hl
    have : dj v = 0 := by omega
    have hb := begins fu z (by omega)
    obtain ⟨z', e1, e2⟩ := cw_digs hv (dj v) fu j1 (by omega) z p h hl
    refine ⟨z', ?_, e2⟩
    rw [this] at hb e1
    exact hb.trans e1
  | succ t ih =>
    intro fu ht hj hf z p h hl
    by_cases c : dj v = t + 1
    · have hb := begins fu z (by omega)
      obtain ⟨z', e1, e2⟩ := cw_digs hv (dj v) fu j1 (by omega) z p h hl
      refine ⟨z', ?_, e2⟩
      rw [c] at hb e1
      exact hb.trans e1
    · obtain ⟨fu, rfl⟩ : ∃ f, fu = f + 1 := ⟨fu - 1, by omega⟩
      obtain ⟨z', e1, e2⟩ := ih fu (by omega) (by omega) (by omega) z p h hl
      refine ⟨z', ?_, e2⟩
      show f_X5_writeNumber_25 (fu + 1) z (I64 (v : Int)) 0 (I64 ((10 ^ (t + 1) : Nat) : Int)) = some z'
      have hp := p10_lt (t := t + 1) (by omega)
      have hlt : v < 10 ^ (t + 1) := Nat.lt_of_lt_of_le j2 (Nat.pow_le_pow_right (by omega) (by omega))
      have h1 : ¬ I64 ((10 ^ (t + 1) : Nat) : Int) = 1 := by
        intro e
        have : ((10 ^ (t + 1) : Nat) : Int) = 1 := (I64_inj (nn_r64 (by omega)) (b := 1) (by unfold r64; omega)).mp e
        have h10 : 10 ^ (t + 1) = 10 ^ t * 10 := Nat.pow_succ 10 t
        omega
      rw [f_X5_writeNumber_25, if_neg (p10_pos ht).1, if_neg (show ¬ ¬ (0 : Int32) = 0 by decide), if_neg (fun e => by have := (I64_le (nn_r64 (by omega)) (nn_r64 (by omega))).mp e; omega), if_pos h1]
      unfold f_X5_writeNumber_56 f_X5_writeNumber_81
      rw [if_pos rfl, p10_div ht]
      exact e1
set_option maxHeartbeats 1000000 in
set_option maxRecDepth 100000 in
theorem cw_num12 {a : Int} (ha : a.natAbs < 100000000000) : CW (fun z => f_X5_writeNumber_12 z (I64 a)) (numS a.natAbs) := by
  intro z p h hl
  obtain ⟨z', e1, e2⟩ := cw_start ha 10 fuel (by omega) (dj_spec ha).1 (by rw [fuel_eq]; omega) z p h hl
  refine ⟨z', ?_, e2⟩
  show f_X5_writeNumber_12 z (I64 a) = some z'
  unfold f_X5_writeNumber_12
  rw [mabs64_I (by unfold r64; omega) (by unfold r64; omega), Option.bind_some]
  exact e1
def snum (a : Int) : List Nat := (if a < 0 then [45] else []) ++ numS a.natAbs
set_option maxHeartbeats 1000000 in
set_option maxRecDepth 100000 in
theorem cw_num {a : Int} (ha : a.natAbs < 100000000000) : CW (fun z => f_X5_writeNumber z (I64 a)) (snum a) := by
  unfold f_X5_writeNumber snum
  have hr : r64 a := by unfold r64; omega
  by_cases c : a < 0
  · simp only [if_pos c, if_neg (fun e => by have := (I64_ge0 hr).mp e; omega : ¬ (0 : Int64) ≤ I64 a)]
    exact CW.seq (CW.ch (c := 45) (by omega)) (cw_num12 ha)
  · simp only [if_neg c, if_pos ((I64_ge0 hr).mpr (by omega) : (0 : Int64) ≤ I64 a), List.nil_append]
    exact cw_num12 ha
set_option maxHeartbeats 1000000 in
set_option maxRecDepth 100000 in
theorem rw_digs {v : Nat} (hv : v < 100000000000) : ∀ (t fu : Nat), t ≤ 10 → t + 1 < fu → RW (fun z => f_X7_putNumber_24 fu z (I64 (v : Int)) (I64 ((10 ^ t : Nat) : Int))) (dgs v t) := by
  intro t
  induction t with
  | zero =>
    intro fu ht hf z p h hl
    obtain ⟨fu, rfl⟩ : ∃ f, fu = f + 2 := ⟨fu - 2, by omega⟩
    have hd : 48 + v / 10 ^ 0 % 10 < 256 := by omega
    obtain ⟨z', e1, e2, e3⟩ := RW.ch hd z p h (by rw [dgs_len] at hl; exact hl)
    have e1' : f_X7_put z (nI (48 + v / 10 ^ 0 % 10)) = some z' := e1
    refine ⟨z', ?_, ?_, e3⟩
    · show f_X7_putNumber_24 (fu + 1 + 1) z (I64 (v : Int)) (I64 ((10 ^ 0 : Nat) : Int)) = some z'
      rw [f_X7_putNumber_24, if_neg (p10_pos ht).1, if_pos (p10_pos ht).2, digit_eq hv ht, e1']
      simp only [Option.bind_some]
      rw [f_X7_putNumber_24, if_pos (show I64 ((10 ^ 0 : Nat) : Int) / 10 ≤ 0 by decide)]
    · have : dgs v 0 = [48 + v / 10 ^ 0 % 10] := by rw [Nat.pow_zero, Nat.div_one]; rfl
      rw [this]; exact e2
  | succ t ih =>
    intro fu ht hf z p h hl
    obtain ⟨fu, rfl⟩ : ∃ f, fu = f + 1 := ⟨fu - 1, by omega⟩
    rw [dgs_len] at hl
    have hd : 48 + v / 10 ^ (t + 1) % 10 < 256 := by omega
    obtain ⟨z1, e1, e2, e5⟩ := RW.ch hd z p h (by show p.1 + 1 ≤ 1200; omega)
    have e1' : f_X7_put z (nI (48 + v / 10 ^ (t + 1) % 10)) = some z1 := e1
    obtain ⟨z2, e3, e4, e6⟩ := ih fu (by omega) (by omega) z1 _ e2 (by rw [dgs_len, aps_len]; show p.1 + 1 + (t + 1) ≤ 1200; omega)
    refine ⟨z2, ?_, e4, e5.trans e6⟩
    show f_X7_putNumber_24 (fu + 1) z (I64 (v : Int)) (I64 ((10 ^ (t + 1) : Nat) : Int)) = some z2
    rw [f_X7_putNumber_24, if_neg (p10_pos ht).1, if_pos (p10_pos ht).2, digit_eq hv ht, e1']
    simp only [Option.bind_some]
    rw [p10_div ht]
    exact e3
set_option maxHeartbeats 1000000 in
set_option maxRecDepth 100000 in
theorem rw_start {v : Nat} (hv : v < 100000000000) : ∀ (d fu t : Nat), t + d = dj v → d < fu → RW (fun z => f_X7_putNumber_2 fu z (I64 (v : Int)) (I64 ((10 ^ t : Nat) : Int))) (numS v) := by
  obtain ⟨j1, j2, j3⟩ := dj_spec hv
  intro d
  induction d with
  | zero =>
    intro fu t ht hf z p h hl
    obtain ⟨fu, rfl⟩ : ∃ f, fu = f + 1 := ⟨fu - 1, by omega⟩
    have : t = dj v := by omega
    subst this
    obtain ⟨z', e1, e2, e3⟩ := rw_digs hv (dj v) fuel j1 (by rw [fuel_eq]; omega) z p h hl
    refine ⟨z', ?_, e2, e3⟩
    show f_X7_putNumber_2 (fu + 1) z (I64 (v : Int)) (I64 ((10 ^ dj v : Nat) : Int)) = some z'
    have hp := p10_lt (t := dj v) (by omega)
    have hq : v / 10 ^ dj v < 10 := by
      rw [Nat.div_lt_iff_lt_mul (by omega)]
      rw [Nat.pow_succ, Nat.mul_comm] at j2
      exact j2
    rw [f_X7_putNumber_2, if_pos (p10_pos j1).2, I64_ndiv (by omega) (by omega), if_pos (show I64 ((v / 10 ^ dj v : Nat) : Int) ≤ 9 from (I64_le (b := 9) (nn_r64 (by omega)) (by unfold r64; omega)).mpr (by omega))]
    exact e1
  | succ d ih =>
    intro fu t ht hf z p h hl
    obtain ⟨fu, rfl⟩ : ∃ f, fu = f + 1 := ⟨fu - 1, by omega⟩
    obtain ⟨z', e1, e2, e3⟩ := ih fu (t + 1) (by omega) (by omega) z p h hl
    refine ⟨z', ?_, e2, e3⟩
    show f_X7_putNumber_2 (fu + 1) z (I64 (v : Int)) (I64 ((10 ^ t : Nat) : Int)) = some z'
    have hp := p10_lt (t := t) (by omega)
    have hge : 10 ^ (t + 1) ≤ v := by
      have : 10 ^ (t + 1) ≤ 10 ^ dj v := Nat.pow_le_pow_right (by omega) (by omega)
      have : dj v ≠ 0 := by omega
      omega
    have hq : 10 ≤ v / 10 ^ t := by
      rw [Nat.le_div_iff_mul_le (by omega), Nat.mul_comm, ← Nat.pow_succ]; exact hge
    have hd : v / 10 ^ t ≤ v := Nat.div_le_self _ _
    have e10 : I64 ((10 ^ t : Nat) : Int) * 10 = I64 ((10 ^ (t + 1) : Nat) : Int) := by
      have := I64_mul ((10 ^ t : Nat) : Int) 10
      rw [show ((10 ^ t : Nat) : Int) * 10 = ((10 ^ (t + 1) : Nat) : Int) by rw [Nat.pow_succ]; omega] at this
      exact this
    rw [f_X7_putNumber_2, if_pos (p10_pos (by omega)).2, I64_ndiv (by omega) (by omega), if_neg (show ¬ I64 ((v / 10 ^ t : Nat) : Int) ≤ 9 from fun e => by have := (I64_le (b := 9) (nn_r64 (by omega)) (by unfold r64; omega)).mp e; omega), Option.bind_some, e10]
    exact e1
set_option maxHeartbeats 1000000 in
set_option maxRecDepth 100000 in
theorem rw_num {v : Nat} (hv : v < 100000000000) : RW (fun z => f_X7_putNumber z (I64 (v : Int))) (numS v) :=
  rw_start hv (dj v) fuel 0 (by omega) (by rw [fuel_eq]; have := (dj_spec hv).1; omega)
set_option maxHeartbeats 1000000 in
set_option maxRecDepth 100000 in
theorem CW.id {f : WrS → Option WrS} {s : List Nat} (h : CW f s) : CW (fun z => (f z).bind fun r => some r) s := by
  have : (fun z => (f z).bind fun r => some r) = f := by funext z; cases f z <;> rfl
  rw [this]; exact h
set_option maxHeartbeats 1000000 in
set_option maxRecDepth 100000 in
theorem RW.id {f : MdS → Option MdS} {s : List Nat} (h : RW f s) : RW (fun z => (f z).bind fun r => some r) s := by
  have : (fun z => (f z).bind fun r => some r) = f := by funext z; cases f z <;> rfl
  rw [this]; exact h
def expS (a : Int) : List Nat := if a = 1 then [] else 94 :: snum a
def powS (a : Int) : List Nat := if a = 0 then [] else 120 :: expS a
def mulS (a : Int) : List Nat := 40 :: ((if a = -1 then [45] else if a = 1 then [] else snum a) ++ [120, 41])
def funS (kd : Nat) (a : Int) : List Nat := if kd = 1 then 108 :: expS a else if kd = 2 then 101 :: mulS a else if kd = 3 then 115 :: mulS a else if kd = 4 then 99 :: mulS a else []
def coeS (t b : Nat) (al : Prop) [Decidable al] : List Nat := (if al ∨ t ≠ 1 ∨ b ≠ 1 then numS t else []) ++ (if b = 1 then [] else 47 :: numS b)
def trmS (fst : Prop) [Decidable fst] (kd : Nat) (ag pw : Int) (V : Rat) : List Nat := (if V.num < 0 then [45] else if fst then [] else [43]) ++ (coeS V.num.natAbs V.den (kd = 0 ∧ pw = 0) ++ (powS pw ++ funS kd ag))
set_option maxHeartbeats 1000000 in
set_option maxRecDepth 100000 in
theorem I32eq {a b : Int} (ha : a.natAbs ≤ 1000) (hb : b.natAbs ≤ 1000) : I32 a = I32 b ↔ a = b := I32_inj (by omega) (by omega) (by omega) (by omega)
set_option maxHeartbeats 1000000 in
set_option maxRecDepth 100000 in
theorem cw_exp {a : Int} (ha : a.natAbs ≤ 31) : CW (fun z => f_X5_writeExponent z (I32 a)) (expS a) := by
  unfold f_X5_writeExponent expS
  have e : I32 a = 1 ↔ a = 1 := I32eq (b := 1) (by omega) (by omega)
  by_cases c : a = 1
  · simp only [if_pos c, if_pos (e.mpr c)]; exact CW.nil
  · simp only [if_neg c, if_neg (fun h => c (e.mp h) : ¬ I32 a = 1)]
    rw [toInt64_I (by omega) (by omega)]
    exact CW.seq (CW.ch (c := 94) (by omega)) (CW.id (cw_num (a := a) (by omega)))
set_option maxHeartbeats 1000000 in
set_option maxRecDepth 100000 in
theorem cw_pow {a : Int} (ha : a.natAbs ≤ 31) : CW (fun z => f_X5_writePower z (I32 a)) (powS a) := by
  unfold f_X5_writePower powS
  have e : I32 a = 0 ↔ a = 0 := I32eq (b := 0) (by omega) (by omega)
  by_cases c : a = 0
  · simp only [if_pos c, if_pos (e.mpr c)]; exact CW.nil
  · simp only [if_neg c, if_neg (fun h => c (e.mp h) : ¬ I32 a = 0)]
    exact CW.seq (CW.ch (c := 120) (by omega)) (CW.id (cw_exp ha))
set_option maxHeartbeats 1000000 in
set_option maxRecDepth 100000 in
theorem cw_m31 : CW (fun z => f_X5_writeMultiple_31 z) [120, 41] := by
  unfold f_X5_writeMultiple_31
  exact CW.seq (CW.ch (c := 120) (by omega)) (CW.id (CW.ch (c := 41) (by omega)))
set_option maxHeartbeats 1000000 in
set_option maxRecDepth 100000 in
theorem cw_mul {a : Int} (ha : a.natAbs ≤ 31) : CW (fun z => f_X5_writeMultiple z (I32 a)) (mulS a) := by
  unfold f_X5_writeMultiple mulS
  have e : I32 a = 1 ↔ a = 1 := I32eq (b := 1) (by omega) (by omega)
  have e' : I32 a = -1 ↔ a = -1 := I32eq (b := -1) (by omega) (by omega)
  by_cases c : a = -1
  · simp only [if_pos c, if_neg (fun h => h (e'.mpr c) : ¬ ¬ I32 a = -1)]
    exact CW.seq (CW.ch (c := 40) (by omega)) (CW.seq (CW.ch (c := 45) (by omega)) cw_m31)
  · simp only [if_neg c, if_pos (fun h => c (e'.mp h) : ¬ I32 a = -1)]
    by_cases d : a = 1
    · simp only [if_pos d, if_pos (e.mpr d)]
      exact CW.seq (CW.ch (c := 40) (by omega)) cw_m31
    · simp only [if_neg d, if_neg (fun h => d (e.mp h) : ¬ I32 a = 1)]
      rw [toInt64_I (by omega) (by omega)]
      exact CW.seq (CW.ch (c := 40) (by omega)) (CW.seq (cw_num (a := a) (by omega)) cw_m31)
set_option maxHeartbeats 1000000 in
set_option maxRecDepth 100000 in
theorem cw_fun {kd : Nat} (hk : kd ≤ 4) {a : Int} (ha : a.natAbs ≤ 31) : CW (fun z => f_X5_writeFunction z (nI kd) (I32 a)) (funS kd a) := by
  unfold f_X5_writeFunction funS
  have : kd = 0 ∨ kd = 1 ∨ kd = 2 ∨ kd = 3 ∨ kd = 4 := by omega
  rcases this with rfl | rfl | rfl | rfl | rfl
  · exact CW.nil
  · exact CW.seq (CW.ch (c := 108) (by omega)) (CW.id (cw_exp ha))
  · exact CW.seq (CW.ch (c := 101) (by omega)) (CW.id (cw_mul ha))
  · exact CW.seq (CW.ch (c := 115) (by omega)) (CW.id (cw_mul ha))
  · exact CW.seq (CW.ch (c := 99) (by omega)) (CW.id (cw_mul ha))
set_option maxHeartbeats 1000000 in
set_option maxRecDepth 100000 in
theorem snum_n (v : Nat) : snum (v : Int) = numS v := by
  unfold snum; rw [if_neg (by omega), List.nil_append]; rfl
set_option maxHeartbeats 1000000 in
set_option maxRecDepth 100000 in
theorem cw_numN {v : Nat} (hv : v < 100000000000) : CW (fun z => f_X5_writeNumber z (I64 (v : Int))) (numS v) := by
  rw [← snum_n]; exact cw_num (by omega)
set_option maxHeartbeats 1000000 in
set_option maxRecDepth 100000 in
theorem I64n1 {v : Nat} (hv : v < 100000000000) : I64 (v : Int) = 1 ↔ v = 1 := by
  rw [show (1 : Int64) = I64 ((1 : Nat) : Int) from rfl, I64_inj (nn_r64 (by omega)) (nn_r64 (by omega))]; omega
set_option maxHeartbeats 1000000 in
set_option maxRecDepth 100000 in
theorem cw_c22 {b : Nat} (hb : b < 100000000000) : CW (fun z => f_X5_writeCoefficient_22 z (I64 (b : Int))) (if b = 1 then [] else 47 :: numS b) := by
  unfold f_X5_writeCoefficient_22
  by_cases c : b = 1
  · simp only [if_pos c, if_pos ((I64n1 hb).mpr c)]; exact CW.nil
  · simp only [if_neg c, if_neg (fun h => c ((I64n1 hb).mp h) : ¬ I64 (b : Int) = 1)]
    exact CW.seq (CW.ch (c := 47) (by omega)) (CW.id (cw_numN hb))
set_option maxHeartbeats 1000000 in
set_option maxRecDepth 100000 in
theorem cw_coe {t b : Nat} (ht : t < 100000000000) (hb : b < 100000000000) (al : Prop) [Decidable al] : CW (fun z => f_X5_writeCoefficient z (I64 (t : Int)) (I64 (b : Int)) (if al then 1 else 0)) (coeS t b al) := by
  unfold f_X5_writeCoefficient f_X5_writeCoefficient_17 coeS
  have full : CW (fun z => (f_X5_writeNumber z (I64 (t : Int))).bind fun r_1 => f_X5_writeCoefficient_22 r_1 (I64 (b : Int))) (numS t ++ (if b = 1 then [] else 47 :: numS b)) := CW.seq (cw_numN ht) (cw_c22 hb)
  by_cases c : al
  · simp only [if_pos c, if_pos (show ¬ (1 : Int32) = 0 by decide), if_pos (Or.inl c : al ∨ t ≠ 1 ∨ b ≠ 1)]; exact full
  · simp only [if_neg c, if_neg (show ¬ ¬ (0 : Int32) = 0 by decide)]
    by_cases c1 : t = 1
    · simp only [if_neg (fun h => h ((I64n1 ht).mpr c1) : ¬ ¬ I64 (t : Int) = 1)]
      by_cases c2 : b = 1
      · have : ¬ (al ∨ t ≠ 1 ∨ b ≠ 1) := by
          intro h; rcases h with h | h | h
          · exact c h
          · exact h c1
          · exact h c2
        rw [if_neg this, List.nil_append]
        simp only [if_pos ((I64n1 hb).mpr c2)]
        exact cw_c22 hb
      · rw [if_pos (Or.inr (Or.inr c2) : al ∨ t ≠ 1 ∨ b ≠ 1)]
        simp only [if_neg (fun h => c2 ((I64n1 hb).mp h) : ¬ I64 (b : Int) = 1)]
        exact full
    · rw [if_pos (Or.inr (Or.inl c1) : al ∨ t ≠ 1 ∨ b ≠ 1)]
      simp only [if_pos (fun h => c1 ((I64n1 ht).mp h) : ¬ I64 (t : Int) = 1)]
      exact full
section CTerm
variable {zT : SumS} {n : Nat} {K : Nat → Nat} {F : Nat → Rat}
set_option maxHeartbeats 1000000 in
set_option maxRecDepth 100000 in
theorem cw_term (R : sRep zT n K F) (hn : n ≤ 40) (hv : ∀ k, F k ≠ 0 → vk k ∧ inB (F k)) {i : Nat} (hi : i < n) : CW (fun z => f_X5_writeTerm 40 zT z (nI i)) (trmS (i = 0) (kdK (K i)) (agK (K i)) (pwK (K i)) (F (K i))) := by
  obtain ⟨hvk, hb⟩ := hv _ (R.2.2.2.2.2.1 i hi).1
  have hd := (vk_dec hvk).1
  unfold vkd at hd
  unfold inB at hb
  generalize hV : F (K i) = V at *
  have hr : r64 V.num := by unfold r64; omega
  have hr' : r64 (-V.num) := by unfold r64; omega
  unfold f_X5_writeTerm f_X5_writeTerm_29 f_X5_writeTerm_49 f_X5_writeTerm_50
  rw [topAt_eq R hn (by omega) hi, bottomAt_eq R hn (by omega) hi, kindAt_eq R hn (by omega) hi, argAt_eq R hn (by omega) hi, powAt_eq R hn (by omega) hi, hV]
  simp only [Option.bind_some]
  rw [mabs64_I hr hr']
  generalize kdK (K i) = kd at *
  generalize agK (K i) = ag at *
  generalize pwK (K i) = pw at *
  have tail : CW (fun zW => if ¬ nI kd = 0 then (f_X5_writeCoefficient zW (I64 (V.num.natAbs : Int)) (I64 (V.den : Int)) 0).bind fun r_3 => (f_X5_writePower r_3 (I32 pw)).bind fun r_5 => (f_X5_writeFunction r_5 (nI kd) (I32 ag)).bind fun r_8 => some r_8
      else if ¬ I32 pw = 0 then (f_X5_writeCoefficient zW (I64 (V.num.natAbs : Int)) (I64 (V.den : Int)) 0).bind fun r_3 => (f_X5_writePower r_3 (I32 pw)).bind fun r_5 => (f_X5_writeFunction r_5 (nI kd) (I32 ag)).bind fun r_8 => some r_8
      else (f_X5_writeCoefficient zW (I64 (V.num.natAbs : Int)) (I64 (V.den : Int)) 1).bind fun r_3 => (f_X5_writePower r_3 (I32 pw)).bind fun r_5 => (f_X5_writeFunction r_5 (nI kd) (I32 ag)).bind fun r_8 => some r_8) (coeS V.num.natAbs V.den (kd = 0 ∧ pw = 0) ++ (powS pw ++ funS kd ag)) := by
    have k0 : nI kd = 0 ↔ kd = 0 := nI_inj (m := 0) (by omega) (by omega)
    have p0 : I32 pw = 0 ↔ pw = 0 := I32eq (b := 0) (by omega) (by omega)
    have base : CW (fun zW => (f_X5_writeCoefficient zW (I64 (V.num.natAbs : Int)) (I64 (V.den : Int)) (if kd = 0 ∧ pw = 0 then 1 else 0)).bind fun r_3 => (f_X5_writePower r_3 (I32 pw)).bind fun r_5 => (f_X5_writeFunction r_5 (nI kd) (I32 ag)).bind fun r_8 => some r_8) (coeS V.num.natAbs V.den (kd = 0 ∧ pw = 0) ++ (powS pw ++ funS kd ag)) :=
      CW.seq (cw_coe (by omega) (by omega) _) (CW.seq (cw_pow (by omega)) (CW.id (cw_fun (by omega) (by omega))))
    by_cases c : kd = 0
    · by_cases d : pw = 0
      · simp only [if_neg (fun h => h (k0.mpr c) : ¬ ¬ nI kd = 0), if_neg (fun h => h (p0.mpr d) : ¬ ¬ I32 pw = 0)]
        rw [if_pos ⟨c, d⟩] at base; exact base
      · simp only [if_neg (fun h => h (k0.mpr c) : ¬ ¬ nI kd = 0), if_pos (fun h => d (p0.mp h) : ¬ I32 pw = 0)]
        rw [if_neg (fun h => d h.2)] at base; exact base
    · simp only [if_pos (fun h => c (k0.mp h) : ¬ nI kd = 0)]
      rw [if_neg (fun h => c h.1)] at base; exact base
  have ge : (0 : Int64) ≤ I64 V.num ↔ 0 ≤ V.num := I64_ge0 hr
  have i0 : nI i ≤ 0 ↔ i = 0 := by
    have := qI_le (n := i) (m := 0) (by omega) (by omega)
    constructor
    · intro e; have := this.mp e; omega
    · intro e; exact this.mpr (by omega)
  unfold trmS
  by_cases c : V.num < 0
  · rw [if_pos c]
    simp only [if_neg (fun h => by have := ge.mp h; omega : ¬ (0 : Int64) ≤ I64 V.num)]
    exact CW.seq (CW.ch (c := 45) (by omega)) tail
  · rw [if_neg c]
    simp only [if_pos (ge.mpr (by omega) : (0 : Int64) ≤ I64 V.num)]
    by_cases d : i = 0
    · rw [if_pos d, List.nil_append]
      simp only [if_pos (i0.mpr d)]
      exact tail
    · rw [if_neg d]
      simp only [if_neg (fun h => d (i0.mp h) : ¬ nI i ≤ 0)]
      exact CW.seq (CW.ch (c := 43) (by omega)) tail
end CTerm
set_option maxHeartbeats 1000000 in
set_option maxRecDepth 100000 in
theorem rw_f110 : RW (fun z => f_X7_putFunction_110 z) [120, 41] := by
  unfold f_X7_putFunction_110
  exact RW.seq (RW.ch (c := 120) (by omega)) (RW.id (RW.ch (c := 41) (by omega)))
set_option maxHeartbeats 1000000 in
set_option maxRecDepth 100000 in
theorem rw_f95 {v : Nat} (hv : v ≤ 31) : RW (fun z => f_X7_putFunction_95 z (nI v)) ((if v ≤ 1 then [] else numS v) ++ [120, 41]) := by
  unfold f_X7_putFunction_95
  have e : nI v ≤ 1 ↔ v ≤ 1 := qI_le (m := 1) (by omega) (by omega)
  by_cases c : v ≤ 1
  · simp only [if_pos c, if_pos (e.mpr c)]; exact rw_f110
  · simp only [if_neg c, if_neg (fun h => c (e.mp h) : ¬ nI v ≤ 1)]
    rw [toInt64_n (by omega)]
    exact RW.seq (rw_num (by omega)) rw_f110
set_option maxHeartbeats 1000000 in
set_option maxRecDepth 100000 in
theorem rw_f66 {a : Int} (ha : a.natAbs ≤ 31) (h0 : a ≠ 0) {c : Nat} (hc : c < 256) : RW (fun z => f_X7_putFunction_66 z (I32 a) (nI c)) (c :: mulS a) := by
  unfold f_X7_putFunction_66 f_X7_putFunction_85
  have e : (0 : Int32) ≤ I32 a ↔ 0 ≤ a := I32_le (a := 0) (by omega) (by omega) (by omega) (by omega)
  by_cases d : 0 ≤ a
  · simp only [if_pos (e.mpr d)]
    obtain ⟨v, rfl⟩ : ∃ v : Nat, a = v := ⟨a.toNat, by omega⟩
    have hs : mulS (v : Int) = 40 :: ((if v ≤ 1 then [] else numS v) ++ [120, 41]) := by
      unfold mulS
      rw [if_neg (by omega)]
      by_cases x : v = 1
      · subst x; rfl
      · rw [if_neg (by omega), if_neg (by omega), snum_n]
    rw [hs, I32_nI]
    exact RW.seq (RW.ch hc) (RW.seq (RW.ch (c := 40) (by omega)) (rw_f95 (by omega)))
  · simp only [if_neg (fun h => d (e.mp h) : ¬ (0 : Int32) ≤ I32 a)]
    obtain ⟨v, hv⟩ : ∃ v : Nat, -a = v := ⟨(-a).toNat, by omega⟩
    have hs : mulS a = 40 :: 45 :: ((if v ≤ 1 then [] else numS v) ++ [120, 41]) := by
      unfold mulS
      by_cases x : a = -1
      · have : v = 1 := by omega
        subst this; rw [if_pos x]; rfl
      · rw [if_neg x, if_neg (by omega), if_neg (by omega)]
        unfold snum
        rw [if_pos (by omega), show a.natAbs = v by omega]; rfl
    rw [hs, I32_neg, hv, I32_nI]
    exact RW.seq (RW.ch hc) (RW.seq (RW.ch (c := 40) (by omega)) (RW.seq (RW.ch (c := 45) (by omega)) (rw_f95 (by omega))))
set_option maxHeartbeats 1000000 in
set_option maxRecDepth 100000 in
theorem rw_fun {f : Nat} (hf : f < 46) : RW (fun z => f_X7_putFunction z (nI f)) (funS (kdF f) (ctF f)) := by
  unfold f_X7_putFunction f_X7_putFunction_38
  rw [(kindOf_eq ⟨f, hf⟩).1, (kindOf_eq ⟨f, hf⟩).2]
  simp only [Option.bind_some]
  have hc := kdF_cases f hf
  generalize kdF f = kd at *
  generalize ctF f = ag at *
  have : kd = 0 ∨ kd = 1 ∨ kd = 2 ∨ kd = 3 ∨ kd = 4 := by omega
  rcases this with rfl | rfl | rfl | rfl | rfl
  · exact RW.nil
  · obtain ⟨v, rfl⟩ : ∃ v : Nat, ag = v := ⟨ag.toNat, by omega⟩
    rw [I32_nI]
    have e : nI v ≤ 1 ↔ v ≤ 1 := qI_le (m := 1) (by omega) (by omega)
    have hs : funS 1 (v : Int) = 108 :: (if v ≤ 1 then [] else 94 :: numS v) := by
      show 108 :: expS (v : Int) = _
      unfold expS
      by_cases x : v = 1
      · subst x; rfl
      · rw [if_neg (by omega), if_neg (by omega), snum_n]
    rw [hs]
    by_cases c : v ≤ 1
    · simp only [if_pos c, if_pos (e.mpr c)]
      exact RW.seq (RW.ch (c := 108) (by omega)) RW.nil
    · simp only [if_neg c, if_neg (fun h => c (e.mp h) : ¬ nI v ≤ 1)]
      rw [toInt64_n (by omega)]
      exact RW.seq (RW.ch (c := 108) (by omega)) (RW.seq (RW.ch (c := 94) (by omega)) (RW.id (rw_num (by omega))))
  · exact rw_f66 (c := 101) (by omega) (by omega) (by omega)
  · exact rw_f66 (c := 115) (by omega) (by omega) (by omega)
  · exact rw_f66 (c := 99) (by omega) (by omega) (by omega)
set_option maxHeartbeats 1000000 in
set_option maxRecDepth 100000 in
theorem rw_t140 {f : Nat} (hf : f < 46) : RW (fun z => f_X7_putTerm_140 z (nI f)) (funS (kdF f) (ctF f)) := by
  unfold f_X7_putTerm_140
  exact RW.id (rw_fun hf)
set_option maxHeartbeats 1000000 in
set_option maxRecDepth 100000 in
theorem rw_t89 {f : Nat} (hf : f < 46) {pw : Int} (hp : pw.natAbs ≤ 31) : RW (fun z => f_X7_putTerm_89 z (nI f) (I32 pw)) (powS pw ++ funS (kdF f) (ctF f)) := by
  unfold f_X7_putTerm_89 f_X7_putTerm_99 f_X7_putTerm_124 f_X7_putTerm_137
  have e0 : I32 pw = 0 ↔ pw = 0 := I32eq (b := 0) (by omega) (by omega)
  have e1 : I32 pw = 1 ↔ pw = 1 := I32eq (b := 1) (by omega) (by omega)
  have e : (0 : Int32) ≤ I32 pw ↔ 0 ≤ pw := I32_le (a := 0) (by omega) (by omega) (by omega) (by omega)
  unfold powS expS snum
  by_cases c0 : pw = 0
  · simp only [if_pos c0, if_pos (e0.mpr c0), List.nil_append]; exact rw_t140 hf
  · simp only [if_neg c0, if_neg (fun h => c0 (e0.mp h) : ¬ I32 pw = 0)]
    by_cases c1 : pw = 1
    · simp only [if_pos c1, if_pos (e1.mpr c1)]
      exact RW.seq (RW.ch (c := 120) (by omega)) (rw_t140 hf)
    · simp only [if_neg c1, if_neg (fun h => c1 (e1.mp h) : ¬ I32 pw = 1)]
      by_cases d : pw < 0
      · simp only [if_pos d, if_neg (fun h => by have := e.mp h; omega : ¬ (0 : Int32) ≤ I32 pw)]
        obtain ⟨v, hv⟩ : ∃ v : Nat, -pw = v := ⟨(-pw).toNat, by omega⟩
        rw [I32_neg, hv, I32_nI, toInt64_n (by omega), show pw.natAbs = v by omega]
        simp only [List.cons_append, List.nil_append, List.append_assoc]
        exact RW.seq (RW.ch (c := 120) (by omega)) (RW.seq (RW.ch (c := 94) (by omega)) (RW.seq (RW.ch (c := 45) (by omega)) (RW.seq (rw_num (by omega)) (rw_t140 hf))))
      · simp only [if_neg d, if_pos (e.mpr (by omega) : (0 : Int32) ≤ I32 pw)]
        obtain ⟨v, hv⟩ : ∃ v : Nat, pw = v := ⟨pw.toNat, by omega⟩
        rw [hv, I32_nI, toInt64_n (by omega), show ((v : Int)).natAbs = v by omega]
        simp only [List.cons_append, List.nil_append, List.append_assoc]
        exact RW.seq (RW.ch (c := 120) (by omega)) (RW.seq (RW.ch (c := 94) (by omega)) (RW.seq (rw_num (by omega)) (rw_t140 hf)))
set_option maxHeartbeats 1000000 in
set_option maxRecDepth 100000 in
theorem rw_t64 {f : Nat} (hf : f < 46) {pw : Int} (hp : pw.natAbs ≤ 31) {t b : Nat} (ht : t < 100000000000) (hb : b < 100000000000) : RW (fun z => f_X7_putTerm_64 z (nI f) (I32 pw) (I64 (b : Int)) (I64 (t : Int))) ((numS t ++ (if b = 1 then [] else 47 :: numS b)) ++ (powS pw ++ funS (kdF f) (ctF f))) := by
  unfold f_X7_putTerm_64
  rw [List.append_assoc]
  by_cases c : b = 1
  · simp only [if_pos c, if_pos ((I64n1 hb).mpr c), List.nil_append]
    exact RW.seq (rw_num ht) (rw_t89 hf hp)
  · simp only [if_neg c, if_neg (fun h => c ((I64n1 hb).mp h) : ¬ I64 (b : Int) = 1)]
    simp only [List.cons_append]
    exact RW.seq (rw_num ht) (RW.seq (RW.ch (c := 47) (by omega)) (RW.seq (rw_num hb) (rw_t89 hf hp)))
set_option maxHeartbeats 1000000 in
set_option maxRecDepth 100000 in
theorem rw_t40 {f : Nat} (hf : f < 46) {pw : Int} (hp : pw.natAbs ≤ 31) {t b : Nat} (ht : t < 100000000000) (hb : b < 100000000000) : RW (fun z => f_X7_putTerm_40 z (nI f) (I32 pw) (I64 (b : Int)) (I64 (t : Int))) (coeS t b (kdF f = 0 ∧ pw = 0) ++ (powS pw ++ funS (kdF f) (ctF f))) := by
  unfold f_X7_putTerm_40 coeS
  have e0 : I32 pw = 0 ↔ pw = 0 := I32eq (b := 0) (by omega) (by omega)
  have f0 : nI f = 0 ↔ kdF f = 0 := by
    rw [show (nI f = 0 ↔ f = 0) from nI_inj (m := 0) (by omega) (by omega)]
    have := kdF_cases f hf; omega
  have full := rw_t64 hf hp ht hb
  by_cases c1 : t = 1
  · simp only [if_neg (fun h => h ((I64n1 ht).mpr c1) : ¬ ¬ I64 (t : Int) = 1)]
    by_cases c2 : b = 1
    · simp only [if_neg (fun h => h ((I64n1 hb).mpr c2) : ¬ ¬ I64 (b : Int) = 1)]
      by_cases d1 : kdF f = 0
      · simp only [if_neg (fun h => h (f0.mpr d1) : ¬ ¬ nI f = 0)]
        by_cases d2 : pw = 0
        · simp only [if_neg (fun h => h (e0.mpr d2) : ¬ ¬ I32 pw = 0)]
          rw [if_pos (Or.inl ⟨d1, d2⟩)]; exact full
        · simp only [if_pos (fun h => d2 (e0.mp h) : ¬ I32 pw = 0)]
          rw [if_neg (by intro h; rcases h with h | h | h <;> first | exact d2 h.2 | exact h c1 | exact h c2), if_pos c2, List.nil_append, List.nil_append]
          exact rw_t89 hf hp
      · simp only [if_pos (fun h => d1 (f0.mp h) : ¬ nI f = 0)]
        rw [if_neg (by intro h; rcases h with h | h | h <;> first | exact d1 h.1 | exact h c1 | exact h c2), if_pos c2, List.nil_append, List.nil_append]
        exact rw_t89 hf hp
    · simp only [if_pos (fun h => c2 ((I64n1 hb).mp h) : ¬ I64 (b : Int) = 1)]
      rw [if_pos (Or.inr (Or.inr c2))]; exact full
  · simp only [if_pos (fun h => c1 ((I64n1 ht).mp h) : ¬ I64 (t : Int) = 1)]
    rw [if_pos (Or.inr (Or.inl c1))]; exact full
set_option maxHeartbeats 1000000 in
set_option maxRecDepth 100000 in
theorem rw_term {f : Nat} (hf : f < 46) {pw : Int} (hp : pw.natAbs ≤ 31) {V : Rat} (hb : inB V) {z : MdS} {p : Ln} (h : mw z p) (fst : Prop) [Decidable fst] (h0 : fst ↔ p.1 = 0) (hl : p.1 + (trmS fst (kdF f) (ctF f) pw V).length ≤ 1200) : ∃ z', f_X7_putTerm z (nI f) (I32 pw) (I64 V.num) (I64 V.den) = some z' ∧ mw z' (aps p (trmS fst (kdF f) (ctF f) pw V)) ∧ mO z z' := by
  unfold inB at hb
  have hr : r64 V.num := by unfold r64; omega
  have ge : (0 : Int64) ≤ I64 V.num ↔ 0 ≤ V.num := I64_ge0 hr
  have tail : RW (fun z => f_X7_putTerm_28 z (nI f) (I32 pw) (I64 V.num) (I64 V.den)) (coeS V.num.natAbs V.den (kdF f = 0 ∧ pw = 0) ++ (powS pw ++ funS (kdF f) (ctF f))) := by
    unfold f_X7_putTerm_28
    have base := rw_t40 hf hp (t := V.num.natAbs) (b := V.den) (by omega) (by omega)
    by_cases c : 0 ≤ V.num
    · simp only [if_pos (ge.mpr c)]
      have en : I64 V.num = I64 (V.num.natAbs : Int) := by congr 1; omega
      rw [en]
      exact base
    · simp only [if_neg (fun h => c (ge.mp h) : ¬ (0 : Int64) ≤ I64 V.num)]
      rw [I64_neg, show -V.num = (V.num.natAbs : Int) by omega]
      exact base
  unfold trmS at hl ⊢
  by_cases c : V.num < 0
  · rw [if_pos c] at hl ⊢
    have := RW.seq (RW.ch (c := 45) (by omega)) tail z p h hl
    unfold f_X7_putTerm
    rw [if_neg (fun h => by have := ge.mp h; omega : ¬ (0 : Int64) ≤ I64 V.num)]
    exact this
  · rw [if_neg c] at hl ⊢
    unfold f_X7_putTerm
    rw [if_pos (ge.mpr (by omega) : (0 : Int64) ≤ I64 V.num), h.1]
    have i0 : nI p.1 ≤ 0 ↔ p.1 = 0 := by
      have := qI_le (n := p.1) (m := 0) (by omega) (by omega)
      constructor
      · intro e; have := this.mp e; omega
      · intro e; exact this.mpr (by omega)
    by_cases d : fst
    · rw [if_pos d, List.nil_append] at hl ⊢
      rw [if_pos (i0.mpr (h0.mp d))]
      exact tail z p h hl
    · rw [if_neg d] at hl ⊢
      rw [if_neg (fun h => d (h0.mpr (i0.mp h)))]
      exact RW.seq (RW.ch (c := 43) (by omega)) tail z p h hl
set_option maxHeartbeats 1000000 in
set_option maxRecDepth 100000 in
theorem dj_le {v m : Nat} (hm : m ≤ 10) (h : v < 10 ^ (m + 1)) : dj v ≤ m := by
  have hm' : 10 ^ (m + 1) ≤ 10 ^ 11 := Nat.pow_le_pow_right (by omega) (by omega)
  obtain ⟨j1, j2, j3⟩ := dj_spec (v := v) (by have : (10 : Nat) ^ 11 = 100000000000 := by decide
                                              omega)
  rcases j3 with e | e
  · omega
  · have : 10 ^ dj v < 10 ^ (m + 1) := Nat.lt_of_le_of_lt e h
    have := (Nat.pow_lt_pow_iff_right (by omega : 1 < 10)).mp this
    omega
set_option maxHeartbeats 1000000 in
set_option maxRecDepth 100000 in
theorem snum_len {a : Int} {m : Nat} (hm : m ≤ 10) (h : a.natAbs < 10 ^ (m + 1)) : (snum a).length ≤ m + 2 := by
  unfold snum
  rw [List.length_append, numS_len]
  have := dj_le hm h
  split
  · show 1 + _ ≤ _; omega
  · show 0 + _ ≤ _; omega
set_option maxHeartbeats 1000000 in
set_option maxRecDepth 100000 in
theorem trmS_len {kd : Nat} {ag pw : Int} {V : Rat} (fst : Prop) [Decidable fst] (h : vkd kd ag pw) (hb : inB V) : (trmS fst kd ag pw V).length ≤ 30 ∧ 1 ≤ (trmS fst kd ag pw V).length := by
  unfold vkd at h
  unfold inB at hb
  have l1 : (if V.num < 0 then [45] else if fst then ([] : List Nat) else [43]).length ≤ 1 := by split <;> (try split) <;> decide
  have d1 : dj V.num.natAbs ≤ 10 := dj_le (by omega) (by omega)
  have d2 : dj V.den ≤ 5 := dj_le (by omega) (by omega)
  have l2 : (coeS V.num.natAbs V.den (kd = 0 ∧ pw = 0)).length ≤ 18 := by
    unfold coeS
    rw [List.length_append]
    have a1 : (if (kd = 0 ∧ pw = 0) ∨ V.num.natAbs ≠ 1 ∨ V.den ≠ 1 then numS V.num.natAbs else []).length ≤ 11 := by
      split
      · rw [numS_len]; omega
      · decide
    have a2 : (if V.den = 1 then [] else 47 :: numS V.den).length ≤ 7 := by
      split
      · decide
      · rw [List.length_cons, numS_len]; omega
    omega
  have l3 : (powS pw).length ≤ 5 := by
    unfold powS
    split
    · decide
    · rw [List.length_cons]
      unfold expS
      split
      · decide
      · rw [List.length_cons]; have := snum_len (a := pw) (m := 1) (by omega) (by omega); omega
  have l4 : (funS kd ag).length ≤ 6 := by
    have e1 : (expS ag).length ≤ 4 := by
      unfold expS
      split
      · decide
      · rw [List.length_cons]; have := snum_len (a := ag) (m := 0) (by omega) (by omega); omega
    have e2 : (mulS ag).length ≤ 5 := by
      unfold mulS
      rw [List.length_cons, List.length_append]
      have : (if ag = -1 then [45] else if ag = 1 then [] else snum ag).length ≤ 2 := by
        split
        · decide
        · split
          · decide
          · have := snum_len (a := ag) (m := 0) (by omega) (by omega); omega
      show _ + 2 + 1 ≤ 5
      omega
    unfold funS
    split
    · rw [List.length_cons]; omega
    · split
      · rw [List.length_cons]; omega
      · split
        · rw [List.length_cons]; omega
        · split
          · rw [List.length_cons]; omega
          · exact Nat.zero_le _
  have l5 : 1 ≤ (coeS V.num.natAbs V.den (kd = 0 ∧ pw = 0)).length + ((powS pw).length + (funS kd ag).length) := by
    by_cases c : pw = 0
    · by_cases d : kd = 0
      · have : 1 ≤ (coeS V.num.natAbs V.den (kd = 0 ∧ pw = 0)).length := by
          unfold coeS; rw [if_pos (Or.inl ⟨d, c⟩), List.length_append, numS_len]; omega
        omega
      · have : 1 ≤ (funS kd ag).length := by
          unfold funS
          have : kd = 1 ∨ kd = 2 ∨ kd = 3 ∨ kd = 4 := by omega
          rcases this with rfl | rfl | rfl | rfl
          · exact Nat.succ_le_succ (Nat.zero_le _)
          · exact Nat.succ_le_succ (Nat.zero_le _)
          · exact Nat.succ_le_succ (Nat.zero_le _)
          · exact Nat.succ_le_succ (Nat.zero_le _)
        omega
    · have : 1 ≤ (powS pw).length := by unfold powS; rw [if_neg c, List.length_cons]; omega
      omega
  unfold trmS
  rw [List.length_append, List.length_append, List.length_append]
  omega
def txt (K : Nat → Nat) (F : Nat → Rat) : Nat → List Nat
  | 0 => []
  | i + 1 => txt K F i ++ trmS (i = 0) (kdK (K i)) (agK (K i)) (pwK (K i)) (F (K i))
def p0 : Ln := (0, fun _ => 0)
section WrB
variable {zT : SumS} {n : Nat} {K : Nat → Nat} {F : Nat → Rat}
set_option maxHeartbeats 1000000 in
set_option maxRecDepth 100000 in
theorem txt_len (R : sRep zT n K F) (hv : ∀ k, F k ≠ 0 → vk k ∧ inB (F k)) {i : Nat} (hi : i ≤ n) : (txt K F i).length ≤ 30 * i ∧ i ≤ (txt K F i).length := by
  induction i with
  | zero => exact ⟨Nat.le_refl _, Nat.le_refl _⟩
  | succ i ih =>
    have ih' := ih (by omega)
    obtain ⟨hvk, hb⟩ := hv _ (R.2.2.2.2.2.1 i (by omega)).1
    have := trmS_len (i = 0) (vk_dec hvk).1 hb
    unfold txt
    rw [List.length_append]
    omega
set_option maxHeartbeats 1000000 in
set_option maxRecDepth 100000 in
theorem p0_len (l : List Nat) : (aps p0 l).1 = l.length := by rw [aps_len]; show 0 + _ = _; omega
set_option maxHeartbeats 1000000 in
set_option maxRecDepth 100000 in
theorem cw_sum (R : sRep zT n K F) (hn : n ≤ 40) (hv : ∀ k, F k ≠ 0 → vk k ∧ inB (F k)) : ∀ (d fu i : Nat) (z : WrS), i + d = n → d < fu → cw z (aps p0 (txt K F i)) → ∃ z', f_X5_writeSum_7 40 zT fu z (nI i) = some z' ∧ cw z' (aps p0 (if n = 0 then [48] else txt K F n)) := by
  intro d
  induction d with
  | zero =>
    intro fu i z hi hf h
    obtain ⟨fu, rfl⟩ : ∃ f, fu = f + 1 := ⟨fu - 1, by omega⟩
    have : i = n := by omega
    subst this
    rw [f_X5_writeSum_7]
    unfold f_X4_size
    rw [R.1, Option.bind_some, if_pos ((qI_le (by omega) (by omega)).mpr (Nat.le_refl _)), h.1, p0_len]
    obtain ⟨l1, l2⟩ := txt_len R hv (Nat.le_refl i)
    have e : nI (txt K F i).length = 0 ↔ (txt K F i).length = 0 := nI_inj (m := 0) (by omega) (by omega)
    by_cases c : i = 0
    · subst c
      rw [if_neg (fun h => h (e.mpr rfl)), if_pos rfl]
      obtain ⟨z', e1, e2⟩ := CW.ch (c := 48) (by omega) z _ h (by rw [p0_len]; show 0 + 1 ≤ 1200; omega)
      have e1' : f_X5_append z 48 = some z' := e1
      rw [e1']
      exact ⟨z', rfl, e2⟩
    · rw [if_pos (fun h => by have := e.mp h; omega), if_neg c]
      exact ⟨z, rfl, h⟩
  | succ d ih =>
    intro fu i z hi hf h
    obtain ⟨fu, rfl⟩ : ∃ f, fu = f + 1 := ⟨fu - 1, by omega⟩
    obtain ⟨l1, l2⟩ := txt_len R hv (i := i) (by omega)
    obtain ⟨hvk, hb⟩ := hv _ (R.2.2.2.2.2.1 i (by omega)).1
    have ht := trmS_len (i = 0) (vk_dec hvk).1 hb
    obtain ⟨z1, e1, e2⟩ := cw_term R hn hv (i := i) (by omega) z _ h (by rw [p0_len]; omega)
    have e1' : f_X5_writeTerm 40 zT z (nI i) = some z1 := e1
    rw [← aps_append] at e2
    obtain ⟨z2, e3, e4⟩ := ih fu (i + 1) z1 (by omega) (by omega) e2
    refine ⟨z2, ?_, e4⟩
    rw [f_X5_writeSum_7]
    unfold f_X4_size
    rw [R.1, Option.bind_some, if_neg (fun h => by have := (qI_le (by omega) (by omega)).mp h; omega), e1', Option.bind_some, nI_add1]
    exact e3
set_option maxHeartbeats 1000000 in
set_option maxRecDepth 100000 in
theorem ko_parts {f e : Nat} (hf : f < 46) (he : e < 25) : kdK (ko (25 * f + e)) = kdF f ∧ agK (ko (25 * f + e)) = ctF f ∧ pwK (ko (25 * f + e)) = 12 - (e : Int) := by
  rw [ko_kc hf he]
  have hc : 25 * f + (24 - e) < 1150 := by omega
  rw [kc_kd hc, kc_ag hc, kc_pw hc]
  have a1 : (25 * f + (24 - e)) / 25 = f := by omega
  have a2 : (25 * f + (24 - e)) % 25 = 24 - e := by omega
  rw [a1, a2]
  exact ⟨rfl, rfl, by omega⟩
set_option maxHeartbeats 1000000 in
set_option maxRecDepth 100000 in
theorem mO.rep {z w : MdS} (h : mO z w) {r : Nat} {F : Nat → Rat} (g : rRep z r F) : rRep w r F := fun c hc => by rw [h.1, h.2.1]; exact g c hc
set_option maxHeartbeats 1000000 in
set_option maxRecDepth 100000 in
theorem rw_in (R : sRep zT n K F) (hn : n ≤ 40) (hv : ∀ k, F k ≠ 0 → vk k ∧ inB (F k)) (s : Nat) (hs : s < 8) (kb : MdS → Int32 → Int32 → Option (Int32 × MdS)) (f : Nat) (hf : f < 46) : ∀ (d fu e i : Nat) (z : MdS), e + d = 25 → d < fu → rRep z s F → atO n K (25 * f + e) i → mw z (aps p0 (txt K F i)) →
    ∃ z' i', f_X7_write_37 kb fu z (nI s) (nI f) (I32 (12 - (e : Int))) = kb z' (nI s) (nI (f + 1)) ∧ rRep z' s F ∧ atO n K (25 * (f + 1)) i' ∧ mw z' (aps p0 (txt K F i')) ∧ mO z z' := by
  intro d
  induction d with
  | zero =>
    intro fu e i z he hfu Rm hat hm
    obtain ⟨fu, rfl⟩ : ∃ f, fu = f + 1 := ⟨fu - 1, by omega⟩
    have : e = 25 := by omega
    subst this
    refine ⟨z, i, ?_, Rm, by rw [show 25 * (f + 1) = 25 * f + 25 by omega]; exact hat, hm, mO.rfl' z⟩
    rw [f_X7_write_37, if_pos (show I32 (12 - ((25 : Nat) : Int)) ≤ (-13 : Int32) by decide), nI_add1]
  | succ d ih =>
    intro fu e i z he hfu Rm hat hm
    obtain ⟨fu, rfl⟩ : ∃ f, fu = f + 1 := ⟨fu - 1, by omega⟩
    have hcell : 25 * f + (24 - e) < 1150 := by omega
    have hidx : ((((1150 : Int32) * nI s) + ((25 : Int32) * nI f)) + I32 (12 - (e : Int))) + (12 : Int32) = nI (1150 * s + (25 * f + (24 - e))) := by
      rw [idx_eq s f _ (by omega)]; congr 3; omega
    have hin : inb (nI (1150 * s + (25 * f + (24 - e)))) nUD = true := inU (by omega)
    have hnat : (nI (1150 * s + (25 * f + (24 - e)))).toNatClampNeg = 1150 * s + (25 * f + (24 - e)) := nI_nat (by omega)
    obtain ⟨q1, q2⟩ := Rm _ hcell
    have hko : ko (25 * f + e) = kc (25 * f + (24 - e)) := ko_kc hf (by omega)
    rw [← hko] at q1 q2
    rw [f_X7_write_37, if_neg (show ¬ I32 (12 - (e : Int)) ≤ (-13 : Int32) from fun h => by have := (I32_le (b := -13) (by omega) (by omega) (by omega) (by omega)).mp h; omega), hidx]
    simp only [Option.bind_some, hin, hnat, if_true]
    rw [q1, q2]
    unfold f_X7_write_92
    have hstep : I32 (12 - (e : Int)) + -1 = I32 (12 - ((e + 1 : Nat) : Int)) := by
      have := I32_add (12 - (e : Int)) (-1)
      rw [show 12 - (e : Int) + -1 = 12 - ((e + 1 : Nat) : Int) by omega] at this
      exact this
    rw [hstep]
    have hok := okF_of hv
    by_cases c : F (ko (25 * f + e)) = 0
    · rw [if_pos ((num0 _ (hok _).1).mpr c)]
      obtain ⟨z', i', r1, r2⟩ := ih fu (e + 1) i z (by omega) (by omega) Rm (atO_skip R hat (show 25 * f + e < 1150 by omega) c) hm
      exact ⟨z', i', r1, r2⟩
    · rw [if_neg (fun h => c ((num0 _ (hok _).1).mp h))]
      obtain ⟨h1, h2, h3⟩ := atO_hit R hat (by omega) c
      obtain ⟨l1, l2⟩ := txt_len R hv (i := i) (by omega)
      obtain ⟨hvk, hb⟩ := hv _ c
      obtain ⟨k1, k2, k3⟩ := ko_parts hf (show e < 25 by omega)
      have ht := trmS_len (i = 0) (vk_dec hvk).1 hb
      rw [k1, k2, k3] at ht
      obtain ⟨z1, e1, e2, e3⟩ := rw_term hf (pw := 12 - (e : Int)) (by omega) hb hm (i = 0) (by rw [p0_len]; cases i with
        | zero => exact ⟨fun _ => rfl, fun _ => rfl⟩
        | succ i => omega) (by rw [p0_len]; omega)
      rw [e1, Option.bind_some]
      have e2' : mw z1 (aps p0 (txt K F (i + 1))) := by
        have : txt K F (i + 1) = txt K F i ++ trmS (i = 0) (kdF f) (ctF f) (12 - (e : Int)) (F (ko (25 * f + e))) := by
          unfold txt; rw [h2, k1, k2, k3]; cases i <;> rfl
        rw [this, aps_append]; exact e2
      obtain ⟨z', i', r1, r2, r3, r4, r5⟩ := ih fu (e + 1) (i + 1) z1 (by omega) (by omega) (e3.rep Rm) h3 e2'
      exact ⟨z', i', r1, r2, r3, r4, e3.trans r5⟩
set_option maxHeartbeats 1000000 in
set_option maxRecDepth 100000 in
theorem rw_out (R : sRep zT n K F) (hn : n ≤ 40) (hv : ∀ k, F k ≠ 0 → vk k ∧ inB (F k)) (s : Nat) (hs : s < 8) : ∀ (d fu f i : Nat) (z : MdS), f + d = 46 → d < fu → rRep z s F → atO n K (25 * f) i → mw z (aps p0 (txt K F i)) →
    ∃ z', f_X7_write_28 fu z (nI s) (nI f) = some (gM_outSize z', z') ∧ mw z' (aps p0 (if n = 0 then [48] else txt K F n)) ∧ mO z z' := by
  intro d
  induction d with
  | zero =>
    intro fu f i z he hfu Rm hat hm
    obtain ⟨fu, rfl⟩ : ∃ f, fu = f + 1 := ⟨fu - 1, by omega⟩
    have : f = 46 := by omega
    subst this
    have hi := atO_end hat
    subst hi
    rw [f_X7_write_28, if_pos (show (46 : Int32) ≤ nI 46 by decide), hm.1, p0_len]
    obtain ⟨l1, l2⟩ := txt_len R hv (Nat.le_refl i)
    have e : nI (txt K F i).length = 0 ↔ (txt K F i).length = 0 := nI_inj (m := 0) (by omega) (by omega)
    by_cases c : i = 0
    · subst c
      rw [if_neg (fun h => h (e.mpr rfl)), if_pos rfl]
      obtain ⟨z', e1, e2, e3⟩ := RW.ch (c := 48) (by omega) z _ hm (by rw [p0_len]; show 0 + 1 ≤ 1200; omega)
      have e1' : f_X7_put z 48 = some z' := e1
      rw [e1']
      exact ⟨z', rfl, e2, e3⟩
    · rw [if_pos (fun h => by have := e.mp h; omega), if_neg c]
      refine ⟨z, ?_, hm, mO.rfl' z⟩
      rw [hm.1, p0_len]
  | succ d ih =>
    intro fu f i z he hfu Rm hat hm
    obtain ⟨fu, rfl⟩ : ∃ f, fu = f + 1 := ⟨fu - 1, by omega⟩
    rw [f_X7_write_28, if_neg (show ¬ (46 : Int32) ≤ nI f from fun h => by have := (qI_le (n := 46) (by omega) (by omega)).mp h; omega)]
    obtain ⟨z1, i1, r1, r2, r3, r4, r5⟩ := rw_in R hn hv s hs (fun zM_ x1_ x2_ => f_X7_write_28 fu zM_ x1_ x2_) f (by omega) 25 fuel 0 i z (by omega) (by rw [fuel_eq]; omega) Rm hat hm
    obtain ⟨z', p1, p2, p3⟩ := ih fu (f + 1) i1 z1 (by omega) (by omega) r2 r3 r4
    refine ⟨z', ?_, p2, r5.trans p3⟩
    have r1' : f_X7_write_37 (fun zM_ x1_ x2_ => f_X7_write_28 fu zM_ x1_ x2_) fuel z (nI s) (nI f) 12 = _ := r1
    rw [r1']
    exact p1
end WrB
set_option maxHeartbeats 1000000 in
set_option maxRecDepth 100000 in
theorem write_both {zD : DeskS} {zM : MdS} (h : Sim zD zM) (a : Int32) : opR (f_X6_write zD a) (f_X7_write zM a) True False 0 := by
  obtain ⟨r, e1, e2, e3, e4⟩ := isSlot6_eq a
  unfold f_X6_write f_X7_write f_X7_write_13
  rw [e1, e2, refused0, refused1]
  simp only [Option.bind_some]
  rcases e3 with rfl | rfl
  · rw [if_neg (by simp), if_pos rfl]
    exact ⟨1, 0, zD, 0, uM_refusal zM 1, rfl, rfl, h.refusal 1, Or.inr (Or.inl ⟨rfl, rfl, trivial⟩)⟩
  rw [if_pos (show ¬ (1 : Int32) = 0 by decide), if_neg (show ¬ (1 : Int32) = 0 by decide)]
  obtain ⟨s, hs, rfl⟩ := e4.mp rfl
  obtain ⟨n, K, F, R, Rm, ho, hn, hv⟩ := h.1 s hs
  rw [if_pos ((inb_nI (by omega)).mpr hs), nI_nat (by omega), if_pos trivial]
  unfold f_X5_writeSum f_X5_length
  obtain ⟨w, c1, c2⟩ := cw_sum R hn hv n fuel 0 (uW_len (gD_wr zD) 0) (by omega) (by rw [fuel_eq]; omega) ⟨rfl, fun i hi => absurd hi (Nat.not_lt_zero i)⟩
  have c1' : f_X5_writeSum_7 40 (gD_slots zD s) fuel (uW_len (gD_wr zD) 0) 0 = some w := c1
  rw [c1']
  simp only [Option.bind_some]
  have Rm' : rRep (uM_outSize (uM_refusal zM 0) 0) s F := Rm
  obtain ⟨z', q1, q2, q3⟩ := rw_out R hn hv s hs 46 fuel 0 0 (uM_outSize (uM_refusal zM 0) 0) (by omega) (by rw [fuel_eq]; omega) Rm' (atO_0 R (fun k hk => (hv k hk).1)) ⟨rfl, fun i hi => absurd hi (Nat.not_lt_zero i)⟩
  have q1' : f_X7_write_28 fuel (uM_outSize (uM_refusal zM 0) 0) (nI s) 0 = some (gM_outSize z', z') := q1
  rw [q1']
  have hlen : (aps p0 (if n = 0 then [48] else txt K F n)).1 ≤ 1200 := by
    rw [p0_len]
    split
    · decide
    · have := (txt_len R hv (Nat.le_refl n)).1; omega
  generalize aps p0 (if n = 0 then [48] else txt K F n) = P at *
  refine ⟨0, gW_len w, _, gM_outSize z', z', rfl, rfl, ⟨fun s' hs' => ?_, ?_, ⟨P.1, hlen, c2.1, q2.1, fun i hi => ⟨(c2.2 i hi).1.trans (q2.2 i hi).1.symm, P.2 i, (q2.2 i hi).2, (q2.2 i hi).1⟩⟩, ?_⟩, Or.inl ⟨rfl, q3.2.2.2.2.2, c2.1.trans q2.1.symm⟩⟩
  · obtain ⟨n', K', F', a1, a2, a3⟩ := h.1 s' hs'
    have a2' : rRep (uM_outSize (uM_refusal zM 0) 0) s' F' := a2
    exact ⟨n', K', F', a1, q3.rep a2', a3⟩
  · obtain ⟨m, l1, l2, l3, l4⟩ := h.2.1
    refine ⟨m, l1, l2, q3.2.2.1.trans l3, fun i hi => ?_⟩
    rw [q3.2.2.2.1]
    exact l4 i hi
  · show gR_place (gD_rd zD) = gM_wrongPlace z'
    rw [q3.2.2.2.2.1]; exact h.2.2.2
