def ko (o : Nat) : Nat := ky (kdF (o / 25)) (ctF (o / 25)) (12 - (o % 25 : Nat))
set_option maxHeartbeats 1000000 in
set_option maxRecDepth 100000 in
theorem ko_dec : ∀ f : Fin 46, ∀ e : Fin 25, ko (25 * f.val + e.val) = kc (25 * f.val + (24 - e.val)) ∧ (25 * f.val + e.val + 1 < 1150 → ko (25 * f.val + e.val) < ko (25 * f.val + e.val + 1)) := by decide +kernel
set_option maxHeartbeats 1000000 in
set_option maxRecDepth 100000 in
theorem ko_kc {f e : Nat} (hf : f < 46) (he : e < 25) : ko (25 * f + e) = kc (25 * f + (24 - e)) := (ko_dec ⟨f, hf⟩ ⟨e, he⟩).1
set_option maxHeartbeats 1000000 in
set_option maxRecDepth 100000 in
theorem ko_succ {o : Nat} (h : o + 1 < 1150) : ko o < ko (o + 1) := by
  have := (ko_dec ⟨o / 25, by omega⟩ ⟨o % 25, by omega⟩).2
  have e : 25 * (o / 25) + o % 25 = o := by omega
  simp only [e] at this
  exact this h
set_option maxHeartbeats 1000000 in
set_option maxRecDepth 100000 in
theorem ko_lt {o p : Nat} (h : o < p) (hp : p < 1150) : ko o < ko p := by
  obtain ⟨d, rfl⟩ : ∃ d, p = o + 1 + d := ⟨p - o - 1, by omega⟩
  induction d with
  | zero => exact ko_succ hp
  | succ d ih => exact Nat.lt_trans (ih (by omega) (by omega)) (ko_succ (o := o + 1 + d) (by omega))
set_option maxHeartbeats 1000000 in
set_option maxRecDepth 100000 in
theorem vk_ko {k : Nat} (h : vk k) : ∃ o, o < 1150 ∧ ko o = k := by
  obtain ⟨c, hc, e⟩ := h
  refine ⟨25 * (c / 25) + (24 - c % 25), by omega, ?_⟩
  rw [ko_kc (by omega) (by omega), ← e]; congr 1; omega
def atO (n : Nat) (K : Nat → Nat) (o i : Nat) : Prop := i ≤ n ∧ ∀ j, j < n → ∃ q, q < 1150 ∧ ko q = K j ∧ (j < i ↔ q < o)
section Ord
variable {z : SumS} {n : Nat} {K : Nat → Nat} {F : Nat → Rat}
set_option maxHeartbeats 1000000 in
set_option maxRecDepth 100000 in
theorem atO_0 (R : sRep z n K F) (hv : ∀ k, F k ≠ 0 → vk k) : atO n K 0 0 := by
  refine ⟨by omega, fun j hj => ?_⟩
  obtain ⟨q, hq, e⟩ := vk_ko (hv _ (R.2.2.2.2.2.1 j hj).1)
  exact ⟨q, hq, e, by omega⟩
set_option maxHeartbeats 1000000 in
set_option maxRecDepth 100000 in
theorem atO_end {i : Nat} (h : atO n K 1150 i) : i = n := by
  obtain ⟨h1, h2⟩ := h
  apply Classical.byContradiction
  intro h9
  obtain ⟨q, hq, -, e⟩ := h2 i (by omega)
  omega
set_option maxHeartbeats 1000000 in
set_option maxRecDepth 100000 in
theorem ko_inj {o p : Nat} (ho : o < 1150) (hp : p < 1150) (e : ko o = ko p) : o = p := by
  rcases Nat.lt_trichotomy o p with c | c | c
  · have := ko_lt c hp; omega
  · exact c
  · have := ko_lt c ho; omega
set_option maxHeartbeats 1000000 in
set_option maxRecDepth 100000 in
theorem atO_skip {o i : Nat} (R : sRep z n K F) (h : atO n K o i) (ho : o < 1150) (h0 : F (ko o) = 0) : atO n K (o + 1) i := by
  refine ⟨h.1, fun j hj => ?_⟩
  obtain ⟨q, hq, e, e2⟩ := h.2 j hj
  refine ⟨q, hq, e, ?_⟩
  have : q ≠ o := fun h9 => by
    subst h9
    rw [e] at h0
    exact (R.2.2.2.2.2.1 j hj).1 h0
  omega
set_option maxHeartbeats 1000000 in
set_option maxRecDepth 100000 in
theorem atO_hit {o i : Nat} (R : sRep z n K F) (h : atO n K o i) (ho : o < 1150) (h0 : F (ko o) ≠ 0) : i < n ∧ K i = ko o ∧ atO n K (o + 1) (i + 1) := by
  obtain ⟨j, hj, e⟩ := R.2.2.2.2.2.2 _ h0
  obtain ⟨q, hq, e1, e2⟩ := h.2 j hj
  have hqo : q = o := ko_inj hq ho (e1.trans e)
  subst hqo
  have hij : i ≤ j := by omega
  have hi : i < n := by omega
  obtain ⟨q', hq', e1', e2'⟩ := h.2 i hi
  have hq'o : q ≤ q' := by omega
  have hji : j = i := by
    apply Classical.byContradiction
    intro h9
    have := R.2.2.2.2.1 i j (by omega) hj
    rw [← e1', ← e1] at this
    rcases Nat.lt_or_ge q q' with c | c
    · have := ko_lt c hq'; omega
    · have : q = q' := by omega
      subst this; omega
  subst hji
  refine ⟨hi, e, by omega, fun l hl => ?_⟩
  obtain ⟨p, hp, p1, p2⟩ := h.2 l hl
  refine ⟨p, hp, p1, ?_⟩
  by_cases c : l = j
  · subst c
    have := ko_inj hp hq (p1.trans e1.symm)
    omega
  · have : p ≠ q := fun h9 => by
      subst h9
      exact c (R.inj hl hj (p1.symm.trans e1))
    omega
end Ord
section Term
variable {z : SumS} {n : Nat} {K : Nat → Nat} {F : Nat → Rat}
def valK (F : Nat → Rat) (w : Nat) (k : Nat) : Int64 := if w = 0 then I64 (F k).num else if w = 1 then I64 ((F k).den : Int) else if w = 2 then (nI (kdK k)).toInt64 else if w = 3 then (I32 (agK k)).toInt64 else (I32 (pwK k)).toInt64
set_option maxHeartbeats 1000000 in
set_option maxRecDepth 100000 in
theorem term_in (R : sRep z n K F) (hF : okF F) (hn : n ≤ 40) (zM : MdS) (row : Nat) (hr : row < 8) (Rm : rRep zM row F) (t w : Nat) (ht : t < 2147483648) (hw : w ≤ 4) (kb : MdS → Int32 → Int32 → Int32 → Int32 → Int32 → Option (Int64 × MdS)) (f : Nat) (hf : f < 46) : ∀ (d fu e i : Nat), e + d = 25 → d < fu → atO n K (25 * f + e) i → i ≤ t →
    (t < n ∧ f_X7_term_51 kb fu zM (nI row) (nI t) (nI w) (nI (t - i)) (nI f) (I32 (12 - (e : Int))) = some (valK F w (K t), zM)) ∨ (∃ i', i' ≤ t ∧ atO n K (25 * (f + 1)) i' ∧ f_X7_term_51 kb fu zM (nI row) (nI t) (nI w) (nI (t - i)) (nI f) (I32 (12 - (e : Int))) = kb zM (nI row) (nI t) (nI w) (nI (t - i')) (nI (f + 1))) := by
  intro d
  induction d with
  | zero =>
    intro fu e i he hfu hA hi
    obtain ⟨fu, rfl⟩ : ∃ f, fu = f + 1 := ⟨fu - 1, by omega⟩
    right
    refine ⟨i, hi, by rw [show 25 * (f + 1) = 25 * f + e by omega]; exact hA, ?_⟩
    have : I32 (12 - (e : Int)) ≤ (-13 : Int32) := by
      rw [show (-13 : Int32) = I32 (-13) by decide]; exact (I32_le (by omega) (by omega) (by omega) (by omega)).mpr (by omega)
    rw [f_X7_term_51, if_pos this, nI_add1]
  | succ d ih =>
    intro fu e i he hfu hA hi
    obtain ⟨fu, rfl⟩ : ∃ f, fu = f + 1 := ⟨fu - 1, by omega⟩
    have hnot : ¬ I32 (12 - (e : Int)) ≤ (-13 : Int32) := by
      rw [show (-13 : Int32) = I32 (-13) by decide]; intro h; have := (I32_le (by omega) (by omega) (by omega) (by omega)).mp h; omega
    have hix : (((((1150 : Int32) * nI row) + ((25 : Int32) * nI f)) + I32 (12 - (e : Int))) + (12 : Int32)) = nI (1150 * row + (25 * f + (24 - e))) := by
      rw [idx_eq row f _ (by omega)]; congr 1; omega
    have hc : 25 * f + (24 - e) < 1150 := by omega
    have hk : ko (25 * f + e) = kc (25 * f + (24 - e)) := ko_kc hf (by omega)
    have e1 : inb (nI (1150 * row + (25 * f + (24 - e)))) nUD = true := inU (by omega)
    have e2 : (nI (1150 * row + (25 * f + (24 - e)))).toNatClampNeg = 1150 * row + (25 * f + (24 - e)) := nI_nat (by omega)
    rw [f_X7_term_51, if_neg hnot, hix, Option.bind_some]
    unfold f_X7_term_161
    have hx : I32 (12 - (e : Int)) + (-1) = I32 (12 - ((e + 1 : Nat) : Int)) := by
      rw [show (-1 : Int32) = I32 (-1) by decide, I32_add]; congr 1; omega
    simp only [e1, e2, if_true, hx]
    rw [(Rm _ hc).1, (Rm _ hc).2, ← hk]
    have hs := hF (ko (25 * f + e))
    by_cases c0 : F (ko (25 * f + e)) = 0
    · rw [if_neg (fun h => h ((num0 _ hs.1).mpr c0))]
      exact ih fu (e + 1) i (by omega) (by omega) (atO_skip (o := 25 * f + e) R hA (by omega) c0) hi
    rw [if_pos (fun h => c0 ((num0 _ hs.1).mp h))]
    obtain ⟨q1, q2, q3⟩ := atO_hit (o := 25 * f + e) R hA (by omega) c0
    by_cases c1 : t = i
    · left
      subst c1
      refine ⟨q1, ?_⟩
      rw [show t - t = 0 by omega, if_neg (show ¬ ¬ nI 0 = 0 by decide)]
      have hpw : pwK (K t) = 12 - (e : Int) := by rw [q2, hk, kc_pw hc]; omega
      have hag : agK (K t) = ctF f := by rw [q2, hk, kc_ag hc]; congr 1; omega
      have hkd : kdK (K t) = kdF f := by rw [q2, hk, kc_kd hc]; congr 1; omega
      unfold valK
      rw [hpw, hag, hkd, ← q2]
      rw [(kindOf_eq ⟨f, hf⟩).1, (kindOf_eq ⟨f, hf⟩).2, Option.bind_some, Option.bind_some]
      have w0 : nI w = 0 ↔ w = 0 := nI_inj (m := 0) (by omega) (by omega)
      have w1 : nI w = 1 ↔ w = 1 := nI_inj (m := 1) (by omega) (by omega)
      have w2 : nI w = 2 ↔ w = 2 := nI_inj (m := 2) (by omega) (by omega)
      have w3 : nI w = 3 ↔ w = 3 := nI_inj (m := 3) (by omega) (by omega)
      by_cases d0 : w = 0
      · rw [if_neg (fun h => h (w0.mpr d0)), if_pos d0]
      rw [if_pos (fun h => d0 (w0.mp h)), if_neg d0]
      by_cases d1 : w = 1
      · rw [if_neg (fun h => h (w1.mpr d1)), if_pos d1]
      rw [if_pos (fun h => d1 (w1.mp h)), if_neg d1]
      by_cases d2 : w = 2
      · rw [if_neg (fun h => h (w2.mpr d2)), if_pos d2]
      rw [if_pos (fun h => d2 (w2.mp h)), if_neg d2]
      by_cases d3 : w = 3
      · rw [if_neg (fun h => h (w3.mpr d3)), if_pos d3]
      rw [if_pos (fun h => d3 (w3.mp h)), if_neg d3]
    · rw [if_pos (show ¬ nI (t - i) = 0 from fun h => by have := (nI_inj (m := 0) (by omega) (by omega)).mp h; omega), nI_addm1 (by omega)]
      have := ih fu (e + 1) (i + 1) (by omega) (by omega) q3 (by omega)
      rw [show t - (i + 1) = t - i - 1 by omega] at this
      exact this
set_option maxHeartbeats 1000000 in
set_option maxRecDepth 100000 in
theorem term_out (R : sRep z n K F) (hF : okF F) (hn : n ≤ 40) (zM : MdS) (row : Nat) (hr : row < 8) (Rm : rRep zM row F) (t w : Nat) (ht : t < 2147483648) (hw : w ≤ 4) : ∀ (d fu f i : Nat), f + d = 46 → d < fu → atO n K (25 * f) i → i ≤ t →
    f_X7_term_36 fu zM (nI row) (nI t) (nI w) (nI (t - i)) (nI f) = some (if t < n then valK F w (K t) else 0, zM) := by
  intro d
  induction d with
  | zero =>
    intro fu f i hf hfu hA hi
    obtain ⟨fu, rfl⟩ : ∃ f, fu = f + 1 := ⟨fu - 1, by omega⟩
    rw [f_X7_term_36, if_pos (show (46 : Int32) ≤ nI f from (qI_le (n := 46) (by omega) (by omega)).mpr (by omega))]
    have : i = n := atO_end (K := K) (by rw [show 1150 = 25 * f by omega]; exact hA)
    rw [if_neg (by omega)]
  | succ d ih =>
    intro fu f i hf hfu hA hi
    obtain ⟨fu, rfl⟩ : ∃ f, fu = f + 1 := ⟨fu - 1, by omega⟩
    rw [f_X7_term_36, if_neg (show ¬ (46 : Int32) ≤ nI f from fun h => by have := (qI_le (n := 46) (by omega) (by omega)).mp h; omega), if_neg (show ¬ nI t < 0 from fun h => by have := (qI_lt (m := 0) ht (by omega)).mp h; omega)]
    have := term_in R hF hn zM row hr Rm t w ht hw (fun zM_ x1_ x2_ x3_ x4_ x5_ => f_X7_term_36 fu zM_ x1_ x2_ x3_ x4_ x5_) f (by omega) 25 fuel 0 i (by omega) (by rw [fuel_eq]; omega) hA hi
    have e12 : I32 (12 - ((0 : Nat) : Int)) = (12 : Int32) := by decide
    rw [e12] at this
    rcases this with ⟨h1, h2⟩ | ⟨i', h1, h2, h3⟩
    · rw [h2, if_pos h1]
    · rw [h3]
      exact ih fu (f + 1) i' (by omega) (by omega) h2 h1
end Term
set_option maxHeartbeats 1000000 in
set_option maxRecDepth 100000 in
theorem term_both {zD : DeskS} {zM : MdS} (h : Sim zD zM) (a i w : Int32) : ∃ e x zD' y zM', f_X6_term zD a i w = some (e, x, zD') ∧ f_X7_term zM a i w = some (y, zM') ∧ Sim zD' zM' ∧ ((e = 0 ∧ gM_refusal zM' = 0 ∧ x = y) ∨ (e = 1 ∧ gM_refusal zM' = 1)) := by
  obtain ⟨r, e1, e2, e3, e4⟩ := isSlot6_eq a
  unfold f_X6_term f_X7_term f_X7_term_21 f_X7_term_22
  rw [e1, e2, refused0, refused1]
  simp only [Option.bind_some]
  have no : ∃ e x zD' y zM', some ((1 : Int32), (0 : Int64), zD) = some (e, x, zD') ∧ (if (1 : Int32) = 0 then f_X7_term_36 fuel (uM_refusal zM 1) a i w i 0 else some (0, uM_refusal zM 1)) = some (y, zM') ∧ Sim zD' zM' ∧ ((e = 0 ∧ gM_refusal zM' = 0 ∧ x = y) ∨ (e = 1 ∧ gM_refusal zM' = 1)) :=
    ⟨1, 0, zD, 0, _, rfl, rfl, h.refusal 1, Or.inr ⟨rfl, rfl⟩⟩
  rcases e3 with rfl | rfl
  · rw [if_neg (by simp), if_pos rfl]; exact no
  rw [if_pos (show ¬ (1 : Int32) = 0 by decide), if_neg (show ¬ (1 : Int32) = 0 by decide)]
  obtain ⟨s, hs, rfl⟩ := e4.mp rfl
  by_cases c1 : w < 0
  · rw [if_pos c1, if_pos c1]; exact no
  rw [if_neg c1, if_neg c1]
  by_cases c2 : w ≤ 4
  · rw [if_pos c2, if_neg (show ¬ (4 : Int32) < w from Int32.not_lt.mpr c2), if_pos trivial, if_pos ((inb_nI (by omega)).mpr hs), nI_nat (by omega)]
    obtain ⟨wn, hwn, rfl⟩ : ∃ wn, wn ≤ 4 ∧ w = nI wn := by
      have l1 := Int32.le_toInt w
      have l2 := Int32.toInt_lt w
      have hx := I32_of w
      generalize w.toInt = x at *
      subst hx
      have p1 : I32 x < 0 ↔ x < 0 := I32_lt (b := 0) (by omega) (by omega) (by omega) (by omega)
      have p2 : I32 x ≤ 4 ↔ x ≤ 4 := I32_le (b := 4) (by omega) (by omega) (by omega) (by omega)
      have q1 : ¬ x < 0 := fun h => c1 (p1.mpr h)
      have q2 := p2.mp c2
      exact ⟨x.toNat, by omega, by rw [← I32_nI]; congr 1; omega⟩
    obtain ⟨n, K, F, R, Rm, ho, hn, hv⟩ := h.1 s hs
    have hF := okF_of hv
    have l1 := Int32.le_toInt i
    have l2 := Int32.toInt_lt i
    have hx := I32_of i
    generalize i.toInt = x at *
    subst hx
    have pi : I32 x < 0 ↔ x < 0 := I32_lt (b := 0) (by omega) (by omega) (by omega) (by omega)
    by_cases ci : x < 0
    · have hh : f_X4_has 40 (gD_slots zD s) (I32 x) = some 0 := by unfold f_X4_has; rw [if_pos (pi.mpr ci)]
      rw [hh, Option.bind_some, if_neg (by simp), fuel_eq, f_X7_term_36, if_neg (show ¬ (46 : Int32) ≤ 0 by decide), if_pos (pi.mpr ci)]
      exact ⟨0, 0, zD, 0, _, rfl, rfl, h.refusal 0, Or.inl ⟨rfl, rfl, rfl⟩⟩
    · obtain ⟨t, ht, e⟩ : ∃ t, t < 2147483648 ∧ I32 x = nI t := ⟨x.toNat, by omega, by rw [← I32_nI]; congr 1; omega⟩
      rw [e]
      have hT := term_out R hF hn (uM_refusal zM 0) s hs Rm t wn ht hwn 46 fuel 0 0 (by omega) (by rw [fuel_eq]; omega) (atO_0 R (fun k hk => (hv k hk).1)) (by omega)
      have hT' : f_X7_term_36 fuel (uM_refusal zM 0) (nI s) (nI t) (nI wn) (nI t) 0 = some (if t < n then valK F wn (K t) else 0, uM_refusal zM 0) := hT
      rw [hT']
      by_cases ct : t < n
      · rw [has_in 40 R.1 (by omega) ct, Option.bind_some, if_pos (show ¬ (1 : Int32) = 0 by decide), if_pos ct, topAt_eq R hn (by omega) ct, bottomAt_eq R hn (by omega) ct, kindAt_eq R hn (by omega) ct, argAt_eq R hn (by omega) ct, powAt_eq R hn (by omega) ct]
        simp only [Option.bind_some]
        refine ⟨0, valK F wn (K t), zD, valK F wn (K t), _, ?_, rfl, h.refusal 0, Or.inl ⟨rfl, rfl, rfl⟩⟩
        unfold valK
        have w0 : nI wn = 0 ↔ wn = 0 := nI_inj (m := 0) (by omega) (by omega)
        have w1 : nI wn = 1 ↔ wn = 1 := nI_inj (m := 1) (by omega) (by omega)
        have w2 : nI wn = 2 ↔ wn = 2 := nI_inj (m := 2) (by omega) (by omega)
        have w3 : nI wn = 3 ↔ wn = 3 := nI_inj (m := 3) (by omega) (by omega)
        by_cases d0 : wn = 0
        · rw [if_pos (w0.mpr d0), if_pos d0]
        rw [if_neg (fun h => d0 (w0.mp h)), if_neg d0]
        by_cases d1 : wn = 1
        · rw [if_pos (w1.mpr d1), if_pos d1]
        rw [if_neg (fun h => d1 (w1.mp h)), if_neg d1]
        by_cases d2 : wn = 2
        · rw [if_pos (w2.mpr d2), if_pos d2]
        rw [if_neg (fun h => d2 (w2.mp h)), if_neg d2]
        by_cases d3 : wn = 3
        · rw [if_pos (w3.mpr d3), if_pos d3]
        rw [if_neg (fun h => d3 (w3.mp h)), if_neg d3]
      · have hh : f_X4_has 40 (gD_slots zD s) (nI t) = some 0 := by
          unfold f_X4_has
          rw [R.1]
          rw [if_neg (show ¬ nI t < 0 from fun h => by have := (qI_lt (m := 0) ht (by omega)).mp h; omega), if_pos ((qI_le (by omega) ht).mpr (by omega))]
        rw [hh, Option.bind_some, if_neg (by simp), if_neg ct]
        exact ⟨0, 0, zD, 0, _, rfl, rfl, h.refusal 0, Or.inl ⟨rfl, rfl, rfl⟩⟩
  · rw [if_neg c2, if_pos (show (4 : Int32) < w from Int32.not_le.mp c2)]; exact no
set_option maxHeartbeats 1000000 in
set_option maxRecDepth 100000 in
theorem rat_mul_divInt (v : Rat) (p q : Int) : v * Rat.divInt p q = Rat.divInt (v.num * p) (v.den * q) := by
  conv => lhs; rw [← Rat.num_divInt_den v]
  exact Rat.divInt_mul_divInt _ _
set_option maxHeartbeats 1000000 in
set_option maxRecDepth 100000 in
theorem toInt64_I {x : Int} (h : -2147483648 ≤ x) (h' : x < 2147483648) : (I32 x).toInt64 = I64 x := by
  rw [← Int64.toInt_inj, Int32.toInt_toInt64, I32_toInt h h', I64_toInt (by unfold r64; omega)]
set_option maxHeartbeats 1000000 in
set_option maxRecDepth 100000 in
theorem toInt64_n {n : Nat} (h : n < 2147483648) : (nI n).toInt64 = I64 (n : Int) := by
  rw [← I32_nI]; exact toInt64_I (by omega) (by omega)
def bF (F : Nat → Rat) : Prop := ∀ k, (F k).num.natAbs ≤ 10000000000 ∧ (F k).den ≤ 100000
set_option maxHeartbeats 1000000 in
set_option maxRecDepth 100000 in
theorem bF_of {F : Nat → Rat} (h : ∀ k, F k ≠ 0 → vk k ∧ inB (F k)) : bF F := by
  intro k
  by_cases c : F k = 0
  · rw [c]; decide
  · exact (h k c).2
set_option maxHeartbeats 1000000 in
set_option maxRecDepth 100000 in
theorem bF_0 : bF (fun _ => 0) := fun k => by show (0 : Rat).num.natAbs ≤ 10000000000 ∧ (0 : Rat).den ≤ 100000; decide
set_option maxHeartbeats 1000000 in
set_option maxRecDepth 100000 in
theorem absmul {a b : Int} {A B : Nat} (ha : a.natAbs ≤ A) (hb : b.natAbs ≤ B) : (a * b).natAbs ≤ A * B := by
  rw [Int.natAbs_mul]; exact Nat.mul_le_mul ha hb
set_option maxHeartbeats 1000000 in
set_option maxRecDepth 100000 in
theorem bd_slot {v : Rat} (hv : v.num.natAbs ≤ 10000000000 ∧ v.den ≤ 100000) {p q : Int} (hp : p.natAbs ≤ 60000000000) (hq : q.natAbs ≤ 600000) : s64 (v.num * q + p * v.den) ∧ s64 (v.num * q + -p * v.den) ∧ (v.den * q).natAbs < 281474976710656 := by
  have h1 := absmul hv.1 hq
  have h2 : (p * (v.den : Int)).natAbs ≤ 60000000000 * 100000 := absmul hp (by omega)
  have h3 : ((v.den : Int) * q).natAbs ≤ 100000 * 600000 := absmul (by omega) hq
  rw [Int.neg_mul]
  unfold s64
  omega
section PutAll
variable {nS nT : Nat} {z zT : SumS} {n0 m : Nat} {K0 L : Nat → Nat} {F0 G : Nat → Rat}
set_option maxHeartbeats 1000000 in
set_option maxRecDepth 100000 in
theorem putAll_loop (hS : nS ≤ 200) (hT : nT ≤ 200) (RG : sRep zT m L G) (hm : m ≤ nT) (B0 : bF F0) (t b : Int) (hb : b ≠ 0) (BG : ∀ k, ((G k).num * t).natAbs ≤ 60000000000 ∧ ((G k).den * b).natAbs ≤ 600000) : ∀ (d fu i n : Nat) (z : SumS) (K : Nat → Nat) (F : Nat → Rat), i + d = m → d < fu → sRep z n K F → n + d ≤ nS → (∀ j, j < i → F (L j) = F0 (L j) + G (L j) * Rat.divInt t b) → (∀ k, (∀ j, j < i → L j ≠ k) → F k = F0 k) →
    ∃ z' n' K', f_X4_putAll_3 nS nT zT fu z (I64 t) (I64 b) (nI i) = some z' ∧ sRep z' n' K' (fun k => F0 k + G k * Rat.divInt t b) ∧ gS_ov z' = gS_ov z ∧ n' ≤ n + d := by
  intro d
  induction d with
  | zero =>
    intro fu i n z K F hi hf R hN h1 h2
    obtain ⟨fu, rfl⟩ : ∃ f, fu = f + 1 := ⟨fu - 1, by omega⟩
    rw [f_X4_putAll_3, RG.1, if_pos ((qI_le (by omega) (by omega)).mpr (by omega))]
    refine ⟨z, n, K, rfl, ?_, rfl, by omega⟩
    have : F = (fun k => F0 k + G k * Rat.divInt t b) := by
      funext k
      by_cases c : ∃ j, j < i ∧ L j = k
      · obtain ⟨j, hj, e⟩ := c
        rw [← e]; exact h1 j hj
      · rw [h2 k (fun j hj e => c ⟨j, hj, e⟩)]
        have : G k = 0 := by
          apply Classical.byContradiction
          intro h9
          obtain ⟨j, hj, e⟩ := RG.2.2.2.2.2.2 k h9
          exact c ⟨j, by omega, e⟩
        rw [this, Rat.zero_mul, Rat.add_zero]
    rw [← this]; exact R
  | succ d ih =>
    intro fu i n z K F hi hf R hN h1 h2
    obtain ⟨fu, rfl⟩ : ∃ f, fu = f + 1 := ⟨fu - 1, by omega⟩
    have hi' : i < m := by omega
    have e2 : inb (nI i) nT = true := (inb_nI (by omega)).mpr (by omega)
    have e3 : (nI i).toNatClampNeg = i := nI_nat (by omega)
    rw [f_X4_putAll_3, RG.1, if_neg (fun h => by have := (qI_le (by omega) (by omega)).mp h; omega)]
    simp only [e2, e3, if_true]
    rw [RG.2.1 i hi', RG.2.2.1 i hi', RG.2.2.2.1 i hi', I64_mul, I64_mul, nI_add1]
    have hne : ∀ j, j < i → L j ≠ L i := fun j hj e => by have := RG.inj (by omega) hi' e; omega
    have hFi : F (L i) = F0 (L i) := h2 (L i) hne
    obtain ⟨b1, b2⟩ := BG (L i)
    have hbd := bd_slot (B0 (L i)) b1 b2
    have hden : (G (L i)).den ≠ 0 := (G (L i)).den_nz
    have hq : ((G (L i)).den : Int) * b ≠ 0 := Int.mul_ne_zero (by omega) hb
    obtain ⟨z', n', K', q1, q2, q3, q4, q5⟩ := addUp_eq nS hS z n K F R (by omega) (L i) (RG.2.2.2.2.2.1 i hi').2 _ _ hq (fun _ => by omega) (by rw [hFi]; exact hbd.1) (by rw [hFi]; exact hbd.2.2)
    rw [q1, Option.bind_some]
    have hv : Rat.divInt ((G (L i)).num * t) ((G (L i)).den * b) = G (L i) * Rat.divInt t b := (rat_mul_divInt _ _ _).symm
    rw [hv, hFi] at q2
    obtain ⟨z9, n9, K9, p1, p2, p3, p4⟩ := ih fu (i + 1) n' z' K' _ (by omega) (by omega) q2 (by omega) (by
      intro j hj
      by_cases e : j = i
      · subst e; rw [upF_self]
      · rw [upF_ne _ _ (hne j (by omega))]; exact h1 j (by omega)) (by
      intro k hk
      rw [upF_ne _ _ (fun e => hk i (by omega) e.symm)]
      exact h2 k (fun j hj => hk j (by omega)))
    exact ⟨z9, n9, K9, p1, p2, p3.trans q3, by omega⟩
set_option maxHeartbeats 1000000 in
set_option maxRecDepth 100000 in
theorem putAll_eq (hS : nS ≤ 200) (hT : nT ≤ 200) (R : sRep z n0 K0 F0) (RG : sRep zT m L G) (hm : m ≤ nT) (hN : n0 + m ≤ nS) (B0 : bF F0) (t b : Int) (hb : b ≠ 0) (BG : ∀ k, ((G k).num * t).natAbs ≤ 60000000000 ∧ ((G k).den * b).natAbs ≤ 600000) :
    ∃ z' n' K', f_X4_putAll nS nT zT z (I64 t) (I64 b) = some z' ∧ sRep z' n' K' (fun k => F0 k + G k * Rat.divInt t b) ∧ gS_ov z' = gS_ov z ∧ n' ≤ n0 + m :=
  putAll_loop hS hT RG hm B0 t b hb BG m fuel 0 n0 z K0 F0 (by omega) (by rw [fuel_eq]; omega) R hN (fun j h => by omega) (fun k _ => rfl)
end PutAll
set_option maxHeartbeats 1000000 in
set_option maxRecDepth 100000 in
theorem addCellK (z : MdS) (F : Nat → Rat) (R : rRep z 8 F) {f e : Nat} (hf : f < 46) (he : e < 25) (p q : Int) (hq : 0 < q) (hp : s64 p) (hbd : bdK F (kc (25 * f + e)) p q) :
    ∃ z', f_X7_addTerm z 8 (nI (kdF f)) (I32 (ctF f)) (I32 ((e : Int) - 12)) (I64 p) (I64 q) = some z' ∧ mSame z z' ∧ mRow z z' 8 ∧ gM_top z' = gM_top z ∧ gM_bottom z' = gM_bottom z ∧ rRep z' 8 (addF F (sg (kc (25 * f + e)) (Rat.divInt p q))) ∧ gM_isFull z' = gM_isFull z := by
  have hc : 25 * f + e < 1150 := by omega
  have hvk := kc_vkd hc
  have e1 : (25 * f + e) / 25 = f := by omega
  have e2 : (25 * f + e) % 25 = e := by omega
  rw [e1, e2] at hvk
  have hky : ky (kdF f) (ctF f) ((e : Int) - 12) = kc (25 * f + e) := by unfold kc; rw [e1, e2]
  have hcs := kdF_cases f hf
  have hnk : nkey (kdF f) (ctF f) ((e : Int) - 12) = kc (25 * f + e) := by
    unfold nkey
    by_cases c0 : ctF f = 0
    · rw [if_pos c0, ← hky]
      have : kdF f = 0 := by omega
      rw [this, c0]
    · rw [if_neg c0, if_neg (by omega), hky]
  have hnv : ∀ v, nval (kdF f) (ctF f) v = v := by
    intro v
    unfold nval
    by_cases c0 : ctF f = 0
    · rw [if_pos c0, if_neg (by omega)]
    · rw [if_neg c0, if_neg (by omega)]
  obtain ⟨z', h1, h2, h3, h4, h5, h6, -, -⟩ := addTerm_eq z 8 (by omega) F R (kd := kdF f) (ag := ctF f) (pw := (e : Int) - 12) (by unfold okT; omega) (by omega) p q hq hp (by rw [hnk]; exact hbd)
  obtain ⟨h7, h8⟩ := h6 (by rw [hnk]; exact ⟨_, hc, rfl⟩)
  have hdl : dl (kdF f) (ctF f) ((e : Int) - 12) (Rat.divInt p q) = sg (kc (25 * f + e)) (Rat.divInt p q) := by unfold dl; rw [hnk, hnv]
  rw [hdl] at h7
  exact ⟨z', h1, h2, h3, h4, h5, h7, h8⟩
set_option maxHeartbeats 1000000 in
set_option maxRecDepth 100000 in
theorem r64_of_abs {x : Int} {B : Nat} (h : x.natAbs ≤ B) (hB : B < 9223372036854775808) : s64 x := by unfold s64; omega
set_option maxHeartbeats 1000000 in
set_option maxRecDepth 100000 in
theorem num_le (a b : Int) : (Rat.divInt a b).num.natAbs ≤ a.natAbs := by
  rw [Rat.num_divInt, Int.natAbs_ediv_of_dvd (Int.dvd_mul_of_dvd_right (Int.gcd_dvd_right b a)), Int.natAbs_mul]
  refine Nat.le_trans (Nat.div_le_self _ _) ?_
  have : b.sign.natAbs ≤ 1 := by rw [Int.natAbs_sign]; split <;> omega
  calc b.sign.natAbs * a.natAbs ≤ 1 * a.natAbs := Nat.mul_le_mul_right _ this
    _ = a.natAbs := Nat.one_mul _
set_option maxHeartbeats 1000000 in
set_option maxRecDepth 100000 in
theorem den_le {a b : Int} (hb : b ≠ 0) : (Rat.divInt a b).den ≤ b.natAbs := by
  rw [Rat.den_divInt, if_neg hb]; exact Nat.div_le_self _ _
section MAdd
variable {F0 G : Nat → Rat}
set_option maxHeartbeats 1000000 in
set_option maxRecDepth 100000 in
theorem madd_cell (kb1 : MdS → Int32 → Int32 → Int32 → Int32 → Int32 → Option (Int32 × MdS)) (kb2 : MdS → Int32 → Int32 → Int32 → Int32 → Int32 → Int32 → Option (Int32 × MdS)) (z : MdS) (F : Nat → Rat) (R : rRep z 8 F) (x1 x3 x4 x5 : Int32) {f e : Nat} (hf : f < 46) (he : e < 25) (T B : Int) (hB : 0 < B) (hT : T.natAbs ≤ 60000000000) (hB' : B.natAbs ≤ 600000) (hF : (F (kc (25 * f + e))).num.natAbs ≤ 10000000000 ∧ (F (kc (25 * f + e))).den ≤ 100000) :
    ∃ z', f_X7_add_238 kb1 kb2 z x1 x3 x4 x5 (nI f) (I32 ((e : Int) - 12)) (I64 T) (I64 B) = kb2 z' x1 x3 x4 x5 (nI f) (I32 (((e + 1 : Nat) : Int) - 12)) ∧ mSame z z' ∧ mRow z z' 8 ∧ rRep z' 8 (addF F (sg (kc (25 * f + e)) (Rat.divInt T B))) ∧ gM_isFull z' = gM_isFull z := by
  have hTs : s64 T := r64_of_abs hT (by omega)
  have hBs : s64 B := r64_of_abs hB' (by omega)
  have hgp : 0 < Int.gcd T B := Int.gcd_pos_of_ne_zero_right T (by omega)
  have hgl : Int.gcd T B ≤ B.natAbs := Nat.le_of_dvd (by omega) (Nat.gcd_dvd_right _ _)
  have hgr : r64 ((Int.gcd T B : Nat) : Int) := nn_r64 (by omega)
  have hg0 : ¬ I64 ((Int.gcd T B : Nat) : Int) = 0 := fun h => by have := (I64_eq0 hgr).mp h; omega
  have hn := red_num T B (by omega)
  have hd := red_den T B (by omega)
  rw [if_neg (by omega)] at hn hd
  unfold f_X7_add_238
  rw [mgcd_eq hTs hBs, Option.bind_some, (kindOf_eq ⟨f, hf⟩).1, (kindOf_eq ⟨f, hf⟩).2, Option.bind_some, Option.bind_some, if_pos hg0, if_pos hg0, I64_div hTs.r hgr (tdiv_r64 hTs.1 hTs.2), I64_div hBs.r hgr (tdiv_r64 hBs.1 hBs.2), hn, hd]
  have l1 := num_le T B
  have l2 : (Rat.divInt T B).den ≤ B.natAbs := den_le (by omega)
  have l3 : (Rat.divInt T B).den ≠ 0 := (Rat.divInt T B).den_nz
  obtain ⟨z', h1, h2, h3, -, -, h6, h7⟩ := addCellK z F R hf he (Rat.divInt T B).num ((Rat.divInt T B).den : Int) (by omega) (r64_of_abs (Nat.le_trans l1 hT) (by omega)) (bd_slot hF (by omega) (by omega))
  rw [h1, Option.bind_some]
  have hx : I32 ((e : Int) - 12) + 1 = I32 (((e + 1 : Nat) : Int) - 12) := by
    have : (1 : Int32) = I32 1 := rfl
    rw [this, I32_add]; congr 1; omega
  rw [hx]
  rw [Rat.num_divInt_den] at h6
  exact ⟨z', rfl, h2, h3, h6, h7⟩
def maddI (F0 G : Nat → Rat) (r : Rat) (F : Nat → Rat) (c : Nat) : Prop := ∀ j, j < 1150 → F (kc j) = if j < c then F0 (kc j) + G (kc j) * r else F0 (kc j)
set_option maxHeartbeats 1000000 in
set_option maxRecDepth 100000 in
theorem maddI_step {F : Nat → Rat} {r : Rat} {c : Nat} (h : maddI F0 G r F c) (hc : c < 1150) : maddI F0 G r (addF F (sg (kc c) (G (kc c) * r))) (c + 1) := by
  intro j hj
  rw [addF_sg]
  by_cases e : j = c
  · subst e; rw [upF_self, h j hj, if_neg (by omega), if_pos (by omega)]
  · rw [upF_ne _ _ (fun h9 => e (kc_inj hj hc h9)), h j hj]
    by_cases c1 : j < c
    · rw [if_pos c1, if_pos (by omega)]
    · rw [if_neg c1, if_neg (by omega)]
set_option maxHeartbeats 1000000 in
set_option maxRecDepth 100000 in
theorem madd_in (B0 : bF F0) (BG : bF G) (p : Int) (q : Nat) (hp : -100 ≤ p ∧ p ≤ 100) (hq : 1 ≤ q ∧ q ≤ 6) (hpq : (p = q ∨ p = -q) ∨ ∀ k, (G k).num.natAbs ≤ 100 ∧ (G k).den ≤ 6) (b : Nat) (hb : b < 8) (kb : MdS → Int32 → Int32 → Int32 → Int32 → Int32 → Option (Int32 × MdS)) (x1 : Int32) (f : Nat) (hf : f < 46) : ∀ (d fu e : Nat) (z : MdS) (F : Nat → Rat), e + d = 25 → d < fu → rRep z 8 F → rRep z b G → maddI F0 G (Rat.divInt p q) F (25 * f + e) →
    ∃ z' F', f_X7_add_127 kb fu z x1 (nI b) (I32 p) (nI q) (nI f) (I32 ((e : Int) - 12)) = kb z' x1 (nI b) (I32 p) (nI q) (nI (f + 1)) ∧ mSame z z' ∧ mRow z z' 8 ∧ rRep z' 8 F' ∧ rRep z' b G ∧ maddI F0 G (Rat.divInt p q) F' (25 * (f + 1)) ∧ gM_isFull z' = gM_isFull z := by
  intro d
  induction d with
  | zero =>
    intro fu e z F he hfu R RG hI
    obtain ⟨fu, rfl⟩ : ∃ f, fu = f + 1 := ⟨fu - 1, by omega⟩
    rw [f_X7_add_127, if_pos (show (13 : Int32) ≤ I32 ((e : Int) - 12) from (I32_le (a := 13) (by omega) (by omega) (by omega) (by omega)).mpr (by omega)), nI_add1]
    exact ⟨z, F, rfl, mSame.rfl' z, mRow.rfl' z 8, R, RG, by rw [show 25 * (f + 1) = 25 * f + e by omega]; exact hI, rfl⟩
  | succ d ih =>
    intro fu e z F he hfu R RG hI
    obtain ⟨fu, rfl⟩ : ∃ f, fu = f + 1 := ⟨fu - 1, by omega⟩
    have hc : 25 * f + e < 1150 := by omega
    have hix : (((((1150 : Int32) * nI b) + ((25 : Int32) * nI f)) + I32 ((e : Int) - 12)) + (12 : Int32)) = nI (1150 * b + (25 * f + e)) := by
      rw [idx_eq b f _ (by omega)]; congr 1; omega
    have e1 : inb (nI (1150 * b + (25 * f + e))) nUD = true := inU (by omega)
    have e2 : (nI (1150 * b + (25 * f + e))).toNatClampNeg = 1150 * b + (25 * f + e) := nI_nat (by omega)
    rw [f_X7_add_127, if_neg (show ¬ (13 : Int32) ≤ I32 ((e : Int) - 12) from fun h => by have := (I32_le (a := 13) (by omega) (by omega) (by omega) (by omega)).mp h; omega), hix, Option.bind_some]
    unfold f_X7_add_200 f_X7_add_217
    simp only [e1, e2, if_true]
    rw [(RG _ hc).1, (RG _ hc).2, toInt64_I (by omega) (by omega), toInt64_n (by omega), I64_mul, I64_mul, I64_neg]
    have hFc : F (kc (25 * f + e)) = F0 (kc (25 * f + e)) := by rw [hI _ hc, if_neg (by omega)]
    have hFb : (F (kc (25 * f + e))).num.natAbs ≤ 10000000000 ∧ (F (kc (25 * f + e))).den ≤ 100000 := by rw [hFc]; exact B0 _
    have hGb := BG (kc (25 * f + e))
    have hGd : (G (kc (25 * f + e))).den ≠ 0 := (G (kc (25 * f + e))).den_nz
    have t1 : I32 p = nI q ↔ p = q := by rw [← I32_nI]; exact I32_inj (by omega) (by omega) (by omega) (by omega)
    have t2 : I32 p = -nI q ↔ p = -q := by rw [← I32_nI, I32_neg]; exact I32_inj (by omega) (by omega) (by omega) (by omega)
    have fin : ∀ (T B : Int), 0 < B → T.natAbs ≤ 60000000000 → B.natAbs ≤ 600000 → Rat.divInt T B = G (kc (25 * f + e)) * Rat.divInt p q →
        ∃ z' F', f_X7_add_238 kb (fun zM_ x1_ x3_ x4_ x5_ x7_ x8_ => f_X7_add_127 kb fu zM_ x1_ x3_ x4_ x5_ x7_ x8_) z x1 (nI b) (I32 p) (nI q) (nI f) (I32 ((e : Int) - 12)) (I64 T) (I64 B) = kb z' x1 (nI b) (I32 p) (nI q) (nI (f + 1)) ∧ mSame z z' ∧ mRow z z' 8 ∧ rRep z' 8 F' ∧ rRep z' b G ∧ maddI F0 G (Rat.divInt p q) F' (25 * (f + 1)) ∧ gM_isFull z' = gM_isFull z := by
      intro T B hB hT hB' hv
      obtain ⟨z1, q1, q2, q3, q4, q5⟩ := madd_cell kb (fun zM_ x1_ x3_ x4_ x5_ x7_ x8_ => f_X7_add_127 kb fu zM_ x1_ x3_ x4_ x5_ x7_ x8_) z F R x1 (nI b) (I32 p) (nI q) hf (show e < 25 by omega) T B hB hT hB' hFb
      rw [hv] at q4
      obtain ⟨z', F', p1, p2, p3, p4, p5, p6, p7⟩ := ih fu (e + 1) z1 _ (by omega) (by omega) q4 (RG.keep q3 (by omega)) (maddI_step hI hc)
      exact ⟨z', F', q1.trans p1, q2.trans p2, q3.trans p3, p4, p5, p6, p7.trans q5⟩
    have hvm := fun a b => rat_mul_divInt (G (kc (25 * f + e))) a b
    by_cases c1 : p = q
    · rw [if_neg (fun h => h (t1.mpr c1)), if_pos (t1.mpr c1)]
      refine fin _ _ (by omega) (by omega) (by omega) ?_
      rw [hvm, c1, Rat.divInt_mul_right (by omega)]
    · rw [if_pos (fun h => c1 (t1.mp h))]
      by_cases c2 : p = -q
      · rw [if_neg (fun h => h (t2.mpr c2)), if_neg (fun h => c1 (t1.mp h)), if_neg (fun h => h (t2.mpr c2))]
        refine fin _ _ (by omega) (by omega) (by omega) ?_
        rw [hvm, c2, Int.mul_neg, ← Int.neg_mul, Rat.divInt_mul_right (by omega)]
      · rw [if_pos (fun h => c2 (t2.mp h)), if_neg (fun h => c1 (t1.mp h)), if_pos (fun h => c2 (t2.mp h))]
        have hsm := (hpq.resolve_left (by omega)) (kc (25 * f + e))
        have g1 := absmul hsm.1 (show p.natAbs ≤ 100 by omega)
        have g2 : (((G (kc (25 * f + e))).den : Int) * (q : Int)).natAbs ≤ 6 * 6 := absmul (by omega) (by omega)
        refine fin _ _ (Int.mul_pos (by omega) (by omega)) (by omega) (by omega) ?_
        rw [hvm]
set_option maxHeartbeats 1000000 in
set_option maxRecDepth 100000 in
theorem madd_out (B0 : bF F0) (BG : bF G) (p : Int) (q : Nat) (hp : -100 ≤ p ∧ p ≤ 100) (hq : 1 ≤ q ∧ q ≤ 6) (hpq : (p = q ∨ p = -q) ∨ ∀ k, (G k).num.natAbs ≤ 100 ∧ (G k).den ≤ 6) (b : Nat) (hb : b < 8) (to : Nat) : ∀ (d fu f : Nat) (z : MdS) (F : Nat → Rat), f + d = 46 → d < fu → rRep z 8 F → rRep z b G → maddI F0 G (Rat.divInt p q) F (25 * f) →
    ∃ z', f_X7_add_116 fu z (nI to) (nI b) (I32 p) (nI q) (nI f) = (f_X7_finish z' (nI to)).bind (fun r => some (r.1, r.2)) ∧ mSame z z' ∧ mRow z z' 8 ∧ rRep z' 8 (fun k => F0 k + G k * Rat.divInt p q) ∧ gM_isFull z' = gM_isFull z := by
  intro d
  induction d with
  | zero =>
    intro fu f z F hf hfu R RG hI
    obtain ⟨fu, rfl⟩ : ∃ f, fu = f + 1 := ⟨fu - 1, by omega⟩
    rw [f_X7_add_116, if_pos (show (46 : Int32) ≤ nI f from (qI_le (n := 46) (by omega) (by omega)).mpr (by omega))]
    refine ⟨z, rfl, mSame.rfl' z, mRow.rfl' z 8, fun c hc => ?_, rfl⟩
    have := hI c hc
    rw [if_pos (by omega)] at this
    show gM_up z (1150 * 8 + c) = I64 (F0 (kc c) + G (kc c) * Rat.divInt p q).num ∧ _ = I64 ((F0 (kc c) + G (kc c) * Rat.divInt p q).den : Int)
    rw [← this]; exact R c hc
  | succ d ih =>
    intro fu f z F hf hfu R RG hI
    obtain ⟨fu, rfl⟩ : ∃ f, fu = f + 1 := ⟨fu - 1, by omega⟩
    rw [f_X7_add_116, if_neg (show ¬ (46 : Int32) ≤ nI f from fun h => by have := (qI_le (n := 46) (by omega) (by omega)).mp h; omega)]
    obtain ⟨z1, F1, q1, q2, q3, q4, q5, q6, q7⟩ := madd_in B0 BG p q hp hq hpq b hb (fun zM_ x1_ x3_ x4_ x5_ x7_ => f_X7_add_116 fu zM_ x1_ x3_ x4_ x5_ x7_) (nI to) f (by omega) 25 fuel 0 z F (by omega) (by rw [fuel_eq]; omega) R RG hI
    have e12 : I32 (((0 : Nat) : Int) - 12) = (-12 : Int32) := by decide
    rw [e12] at q1
    rw [q1]
    obtain ⟨z', p1, p2, p3, p4, p5⟩ := ih fu (f + 1) z1 F1 (by omega) (by omega) q4 q5 q6
    exact ⟨z', p1, q2.trans p2, q3.trans p3, p4, p5.trans q7⟩
end MAdd
set_option maxHeartbeats 1000000 in
set_option maxRecDepth 100000 in
theorem small_both {z : SumS} {zM : MdS} {n row : Nat} {K : Nat → Nat} {F : Nat → Rat} (hr : row < 8) (R : sRep z n K F) (Rm : rRep zM row F) (hn : n ≤ 40) (hv : ∀ k, F k ≠ 0 → vk k ∧ inB (F k)) : ∃ r, f_X4_isSmall 40 z = some r ∧ f_X7_isSmall zM (nI row) = some r ∧ (r = 0 ∨ r = 1) ∧ (r = 1 → ∀ k, F k ≠ 0 → wiK F 100 6 4 3 k) := by
  obtain ⟨r, h1, h2, h3⟩ := isSmall_eq 40 (by omega) z n K F R hn (okF_of hv)
  obtain ⟨r', g1, g2, g3⟩ := msmall_eq zM row hr F Rm (okF_of hv)
  have all : r = 1 → ∀ k, F k ≠ 0 → wiK F 100 6 4 3 k := by
    intro h k hk
    obtain ⟨i, hi, e⟩ := R.2.2.2.2.2.2 k hk
    have := h3.mp h i hi
    rw [e] at this; exact this
  have key : r = 1 ↔ r' = 1 := by
    rw [g3]
    constructor
    · intro h c hc hk; exact all h _ hk
    · intro h
      rw [h3]
      intro j hj
      have hk := (R.2.2.2.2.2.1 j hj).1
      obtain ⟨c, hc, e⟩ := (hv _ hk).1
      rw [← e] at hk ⊢
      exact h c hc hk
  have hrr : r = r' := by
    rcases h2 with rfl | rfl
    · rcases g2 with rfl | rfl
      · rfl
      · exact absurd (key.mpr rfl) (by decide)
    · exact (key.mp rfl).symm
  subst hrr
  exact ⟨r, h1, g1, h2, all⟩
set_option maxHeartbeats 1000000 in
set_option maxRecDepth 100000 in
theorem absle {x : Int} {n : Nat} (h : x.natAbs ≤ n) : -(n : Int) ≤ x ∧ x ≤ n := by omega
set_option maxHeartbeats 1000000 in
set_option maxRecDepth 100000 in
theorem sum_okF {F G : Nat → Rat} (hF : bF F) {t b : Int} (hb : b ≠ 0) (hG : ∀ k, ((G k).num * t).natAbs ≤ 60000000000 ∧ ((G k).den * b).natAbs ≤ 600000) : okF (fun k => F k + G k * Rat.divInt t b) := by
  intro k
  have hden : (G k).den ≠ 0 := (G k).den_nz
  have hdF : (F k).den ≠ 0 := (F k).den_nz
  have hq : ((G k).den : Int) * b ≠ 0 := Int.mul_ne_zero (by omega) hb
  show s64 (F k + G k * Rat.divInt t b).num ∧ (F k + G k * Rat.divInt t b).den < 9223372036854775808
  rw [rat_mul_divInt, rat_add_divInt _ _ _ hq]
  have h := bd_slot (hF k) (hG k).1 (hG k).2
  have l1 := num_le ((F k).num * ((G k).den * b) + (G k).num * t * (F k).den) ((F k).den * ((G k).den * b))
  have l2 : (Rat.divInt ((F k).num * ((G k).den * b) + (G k).num * t * (F k).den) ((F k).den * ((G k).den * b))).den ≤ _ := den_le (Int.mul_ne_zero (by omega) hq)
  exact ⟨r64_of_abs (Nat.le_trans l1 (Nat.le_refl _)) h.1.abs, by omega⟩
set_option maxHeartbeats 1000000 in
set_option maxRecDepth 100000 in
theorem add_core {zD : DeskS} {zM : MdS} (h : Sim zD zM) {to a b : Nat} (hto : to < 8) (ha : a < 8) (hb : b < 8) (p : Int) (q : Nat) (hp : -100 ≤ p ∧ p ≤ 100) (hq : 1 ≤ q ∧ q ≤ 6) {na nb : Nat} {Ka Kb : Nat → Nat} {F G : Nat → Rat} (Ra : sRep (gD_slots zD a) na Ka F) (Rb : sRep (gD_slots zD b) nb Kb G) (Ma : rRep zM a F) (Mb : rRep zM b G) (hna : na ≤ 40) (hnb : nb ≤ 40) (hva : ∀ k, F k ≠ 0 → vk k ∧ inB (F k)) (hvb : ∀ k, G k ≠ 0 → vk k ∧ inB (G k)) (hpq : (p = q ∨ p = -q) ∨ ∀ k, (G k).num.natAbs ≤ 100 ∧ (G k).den ≤ 6) :
    opR (f_X6_add_105 zD (nI to) (nI a) (nI b) (I32 p) (nI q)) (f_X7_add_93 zM (nI to) (nI a) (nI b) (I32 p) (nI q) 0) True True 2 := by
  have hF := bF_of hva
  have hG := bF_of hvb
  have BG : ∀ k, ((G k).num * p).natAbs ≤ 60000000000 ∧ ((G k).den * (q : Int)).natAbs ≤ 600000 := by
    intro k
    have g := hG k
    refine ⟨?_, ?_⟩
    · rcases hpq with c | c
      · have := absmul g.1 (show p.natAbs ≤ 6 by omega); omega
      · have := absmul (c k).1 (show p.natAbs ≤ 100 by omega); omega
    · have : (((G k).den : Int) * (q : Int)).natAbs ≤ 100000 * 6 := absmul (by omega) (by omega); omega
  unfold f_X6_add_105 f_X7_add_93
  obtain ⟨w0, c1, c2, c3⟩ := sRep_clear (gD_work zD) 200
  rw [c1, Option.bind_some, if_pos ((inb_nI (by omega)).mpr ha), nI_nat (show a < 2147483648 by omega)]
  obtain ⟨w1, n1, K1, d1, d2, d3, d4⟩ := putAll_eq (nS := 200) (nT := 40) (by omega) (by omega) c2 Ra hna (by omega) bF_0 1 1 (by omega) (fun k => by have g := hF k; rw [Int.mul_one, Int.mul_one]; omega)
  have d1' : f_X4_putAll 200 40 (gD_slots (uD_work zD w0) a) (gD_work (uD_work zD w0)) 1 1 = some w1 := d1
  rw [d1', Option.bind_some, if_pos ((inb_nI (by omega)).mpr hb), nI_nat (show b < 2147483648 by omega), toInt64_I (by omega) (by omega), toInt64_n (by omega)]
  have hF1 : (fun k => (0 : Rat) + F k * Rat.divInt 1 1) = F := by
    funext k
    rw [Rat.zero_add, Rat.divInt_self' (by omega), Rat.mul_one]
  rw [hF1] at d2
  obtain ⟨w2, n2, K2, e1, e2, e3, e4⟩ := putAll_eq (nS := 200) (nT := 40) (by omega) (by omega) d2 Rb hnb (by omega) hF p (q : Int) (by omega) BG
  have e1' : f_X4_putAll 200 40 (gD_slots (uD_work (uD_work zD w0) w1) b) (gD_work (uD_work (uD_work zD w0) w1)) (I64 p) (I64 (q : Int)) = some w2 := e1
  rw [e1', Option.bind_some, refused0, Option.bind_some, if_pos rfl]
  obtain ⟨zc, f1, f2, f3, f4, f5, -, -⟩ := copy_eq (uM_isFull (uM_refusal zM 0) 0) 8 a (by omega) (by omega) (by omega) F Ma
  have f1' : f_X7_copy (uM_isFull (uM_refusal zM 0) 0) 8 (nI a) = some zc := f1
  rw [f1', Option.bind_some]
  have Mb0 : rRep (uM_isFull (uM_refusal zM 0) 0) b G := Mb
  obtain ⟨zd, g1, g2, g3, g4, g5⟩ := madd_out hF hG p q hp hq hpq b hb to 46 fuel 0 zc F (by omega) (by rw [fuel_eq]; omega) f2 (Mb0.keep f4 (by omega)) (fun j hj => by rw [if_neg (by omega)])
  have g1' : f_X7_add_116 fuel zc (nI to) (nI b) (I32 p) (nI q) 0 = _ := g1
  rw [g1']
  have hsl : ∀ s, s < 8 → slR (gD_slots zD s) zd s := by
    intro s hs
    have s0 : slR (gD_slots zD s) (uM_isFull (uM_refusal zM 0) 0) s := h.1 s hs
    exact (s0.keep f4 (by omega)).keep g3 (by omega)
  have hvk : ∀ k, F k + G k * Rat.divInt p (q : Int) ≠ 0 → vk k := by
    intro k hk
    by_cases x : F k = 0
    · by_cases y : G k = 0
      · exfalso; apply hk; rw [x, y, Rat.zero_mul, Rat.add_zero]
      · exact (hvb k y).1
    · exact (hva k x).1
  obtain ⟨ans, zD', zM', s1, s2, s3, s4, s5⟩ := settle_both (zD := uD_work (uD_work (uD_work zD w0) w1) w2) (zM := zd) (to := to) (F := fun k => F k + G k * Rat.divInt p (q : Int)) hto hsl e2 (by omega) (by show gS_ov w2 = 0; rw [e3, d3, c3]) g4 (sum_okF hF (by omega) BG) (fun k hk => (vk_wfk.mp (hvk k hk)).1) ⟨fun _ => hvk, fun _ => by rw [g5, f5]; rfl⟩
  rw [s1, s2, Option.bind_some, Option.bind_some]
  have hms : mSame (uM_refusal zM 0) zM' := ((show mSame (uM_refusal zM 0) (uM_isFull (uM_refusal zM 0) 0) from ⟨rfl, rfl, rfl, rfl, rfl, rfl, rfl, rfl⟩).trans f3).trans (g2.trans s5)
  have hds : dSame zD zD' := s4
  exact ⟨0, ans, zD', ans, zM', rfl, rfl, (h.refusal 0).keep hds hms s3, Or.inl ⟨rfl, hms.1, rfl⟩⟩
set_option maxHeartbeats 1000000 in
set_option maxRecDepth 100000 in
theorem add_both {zD : DeskS} {zM : MdS} (h : Sim zD zM) (a1 a2 a3 a4 a5 : Int32) : opR (f_X6_add zD a1 a2 a3 a4 a5) (f_X7_add zM a1 a2 a3 a4 a5) True True 2 := by
  obtain ⟨r1, e1, e2, e3, e4⟩ := isSlot6_eq a1
  obtain ⟨r2, f1, f2, f3, f4⟩ := isSlot6_eq a2
  obtain ⟨r3, g1, g2, g3, g4⟩ := isSlot6_eq a3
  have no : opR (some ((1 : Int32), (0 : Int32), zD)) (f_X7_add_52 zM a1 a2 a3 a4 a5) True True 2 :=
    ⟨1, 0, zD, 0, uM_refusal zM 1, rfl, rfl, h.refusal 1, Or.inr (Or.inl ⟨rfl, rfl, trivial⟩)⟩
  unfold f_X6_add f_X7_add
  rw [e1, e2, f1, f2, g1, g2]
  simp only [Option.bind_some]
  rcases e3 with rfl | rfl
  · rw [if_pos rfl, if_pos rfl]; exact no
  rw [if_neg (show ¬ (1 : Int32) = 0 by decide), if_neg (show ¬ (1 : Int32) = 0 by decide)]
  rcases f3 with rfl | rfl
  · rw [if_pos rfl, if_pos rfl]; exact no
  rw [if_neg (show ¬ (1 : Int32) = 0 by decide), if_neg (show ¬ (1 : Int32) = 0 by decide)]
  rcases g3 with rfl | rfl
  · rw [if_neg (by simp), if_pos rfl]; exact no
  rw [if_pos (show ¬ (1 : Int32) = 0 by decide), if_neg (show ¬ (1 : Int32) = 0 by decide)]
  by_cases c1 : a4 < (-100 : Int32)
  · rw [if_pos c1, if_pos c1]; exact no
  rw [if_neg c1, if_neg c1]
  by_cases c2 : (100 : Int32) < a4
  · rw [if_pos c2, if_pos c2]; exact no
  rw [if_neg c2, if_neg c2]
  by_cases c3 : a5 < 1
  · rw [if_pos c3, if_pos c3]; exact no
  rw [if_neg c3, if_neg c3]
  by_cases c4 : a5 ≤ 6
  case neg => rw [if_neg c4, if_pos (Int32.not_le.mp c4)]; exact no
  rw [if_pos c4, if_neg (Int32.not_lt.mpr c4)]
  obtain ⟨to, hto, rfl⟩ := e4.mp rfl
  obtain ⟨a, ha, rfl⟩ := f4.mp rfl
  obtain ⟨b, hb, rfl⟩ := g4.mp rfl
  obtain ⟨p, hp, rfl⟩ : ∃ p : Int, (-100 ≤ p ∧ p ≤ 100) ∧ a4 = I32 p := by
    refine ⟨a4.toInt, ?_, (I32_of a4).symm⟩
    have x1 := Int32.not_lt.mp c1
    have x2 := Int32.not_lt.mp c2
    rw [Int32.le_iff_toInt_le] at x1 x2
    have y1 : (-100 : Int32).toInt = -100 := by decide
    have y2 : (100 : Int32).toInt = 100 := by decide
    omega
  obtain ⟨q, hq, rfl⟩ : ∃ q : Nat, (1 ≤ q ∧ q ≤ 6) ∧ a5 = nI q := by
    have x1 := Int32.not_lt.mp c3
    rw [Int32.le_iff_toInt_le] at x1 c4
    have y1 : (1 : Int32).toInt = 1 := by decide
    have y2 : (6 : Int32).toInt = 6 := by decide
    refine ⟨a5.toInt.toNat, by omega, ?_⟩
    rw [← I32_nI, ← I32_of a5]; congr 1; rw [I32_of]; omega
  obtain ⟨na, Ka, F, Ra, Ma, oa, hna, hva⟩ := h.1 a ha
  obtain ⟨nb, Kb, G, Rb, Mb, ob, hnb, hvb⟩ := h.1 b hb
  have t1 : I32 p = nI q ↔ p = q := by rw [← I32_nI]; exact I32_inj (by omega) (by omega) (by omega) (by omega)
  have t2 : I32 p = -nI q ↔ p = -q := by rw [← I32_nI, I32_neg]; exact I32_inj (by omega) (by omega) (by omega) (by omega)
  unfold f_X7_add_53
  rw [if_pos (show ¬ (1 : Int32) = 0 by decide)]
  by_cases d1 : p = q
  · rw [if_pos (t1.mpr d1), if_pos (t1.mpr d1)]
    exact add_core h hto ha hb p q hp hq Ra Rb Ma Mb hna hnb hva hvb (Or.inl (Or.inl d1))
  rw [if_neg (fun h => d1 (t1.mp h)), if_neg (fun h => d1 (t1.mp h))]
  by_cases d2 : p = -q
  · rw [if_pos (t2.mpr d2), if_pos (t2.mpr d2)]
    exact add_core h hto ha hb p q hp hq Ra Rb Ma Mb hna hnb hva hvb (Or.inl (Or.inr d2))
  rw [if_neg (fun h => d2 (t2.mp h)), if_neg (fun h => d2 (t2.mp h)), if_pos ((inb_nI (by omega)).mpr hb), nI_nat (by omega)]
  obtain ⟨r, s1, s2, s3, s4⟩ := small_both hb Rb Mb hnb hvb
  rw [s1, s2, Option.bind_some, Option.bind_some]
  rcases s3 with rfl | rfl
  · rw [if_neg (by simp), if_neg (by simp)]
    exact ⟨2, 0, zD, 0, uM_refusal zM 2, rfl, rfl, h.refusal 2, Or.inr (Or.inr ⟨rfl, rfl, trivial⟩)⟩
  · rw [if_pos (show ¬ (1 : Int32) = 0 by decide), if_pos (show ¬ (1 : Int32) = 0 by decide)]
    refine add_core h hto ha hb p q hp hq Ra Rb Ma Mb hna hnb hva hvb (Or.inr (fun k => ?_))
    by_cases x : G k = 0
    · rw [x]; decide
    · have := s4 rfl k x
      exact ⟨this.1, this.2.1⟩
set_option maxHeartbeats 1000000 in
set_option maxRecDepth 100000 in
theorem rRep_inv {z : MdS} {row : Nat} {F : Nat → Rat} (R : rRep z row F) {k : Nat} (hk : ¬ vk k) (v : Rat) : rRep z row (addF F (sg k v)) := by
  intro c hc
  rw [addF_sg, upF_ne _ _ (fun e => hk ⟨c, hc, e⟩)]; exact R c hc
set_option maxHeartbeats 1000000 in
set_option maxRecDepth 100000 in
theorem addTerm_eq' (z : MdS) (row : Nat) (hr : row < 10) (F : Nat → Rat) (R : rRep z row F) {kd : Nat} {ag pw : Int} (ok : okT kd ag pw) (hv : (kd = 1 → 0 ≤ ag) ∧ (kd = 0 → ag = 0)) (p q : Int) (hq : 0 < q) (hp : s64 p) (hbd : bdK F (nkey kd ag pw) p q) :
    ∃ z', f_X7_addTerm z (nI row) (nI kd) (I32 ag) (I32 pw) (I64 p) (I64 q) = some z' ∧ mSame z z' ∧ mRow z z' row ∧ gM_top z' = gM_top z ∧ gM_bottom z' = gM_bottom z ∧ rRep z' row (addF F (dl kd ag pw (Rat.divInt p q))) ∧
      (vk (nkey kd ag pw) → gM_isFull z' = gM_isFull z) ∧ (¬ vk (nkey kd ag pw) → nval kd ag (Rat.divInt p q) ≠ 0 → gM_isFull z' = 1) ∧ (¬ vk (nkey kd ag pw) → nval kd ag (Rat.divInt p q) = 0 → gM_isFull z' = gM_isFull z) := by
  obtain ⟨z', h1, h2, h3, h4, h5, h6, h7, h8⟩ := addTerm_eq z row hr F R ok hv p q hq hp hbd
  refine ⟨z', h1, h2, h3, h4, h5, ?_, fun h => (h6 h).2, fun h h9 => by rw [h8 h h9]; rfl, fun h h9 => by rw [h7 h h9]⟩
  by_cases c : vk (nkey kd ag pw)
  · exact (h6 c).1
  · unfold dl
    by_cases c2 : nval kd ag (Rat.divInt p q) = 0
    · rw [h7 c c2]; exact rRep_inv R c _
    · rw [h8 c c2]
      have R' : rRep (uM_isFull z 1) row F := R
      exact rRep_inv R' c _
def s1K (k : Nat) : Nat := ky (kdK k) (agK k) (pwK k + 1)
def s2K (k : Nat) : Nat := if kdK k ≤ 1 then ky 1 (agK k + 1) (pwK k + 1) else if kdK k = 2 then k else if kdK k = 3 then ky 4 (agK k) (pwK k) else ky 3 (agK k) (pwK k)
def cf2 (k : Nat) : Int := if kdK k ≤ 1 then agK k + 1 else if kdK k = 3 then - agK k else agK k
abbrev okk (k : Nat) : Prop := -13 ≤ pwK k ∧ pwK k ≤ 12 ∧ (-9 ≤ agK k ∧ agK k ≤ 9) ∧ wfk k
def dF (A : Nat → Rat) : Nat → Rat := fun k => if okk k then A (s1K k) * ((pwK k + 1 : Int) : Rat) + A (s2K k) * ((cf2 k : Int) : Rat) else 0
set_option maxHeartbeats 1000000 in
set_option maxRecDepth 100000 in
theorem dF_add (A B : Nat → Rat) : dF (addF A B) = addF (dF A) (dF B) := by
  funext k
  unfold dF addF
  by_cases c : okk k
  · simp only [if_pos c]; grind
  · simp only [if_neg c]; grind
set_option maxHeartbeats 1000000 in
set_option maxRecDepth 100000 in
theorem dF_0 : dF (fun _ => 0) = fun _ => 0 := by
  funext k
  unfold dF
  split <;> simp [Rat.zero_mul, Rat.add_zero]
def dt1 (kd : Nat) (ag pw : Int) (v : Rat) : Nat → Rat := dl kd ag (pw - 1) (v * (pw : Rat))
def dt2 (kd : Nat) (ag pw : Int) (v : Rat) : Nat → Rat := if kd = 0 then fun _ => 0 else if kd = 1 then dl 1 (ag - 1) (pw - 1) (v * (ag : Rat)) else if kd = 2 then dl 2 ag pw (v * (ag : Rat)) else if kd = 3 then dl 4 ag pw (v * (ag : Rat)) else dl 3 ag pw (v * ((-ag : Int) : Rat))
set_option maxHeartbeats 1000000 in
set_option maxRecDepth 100000 in
theorem okA_k (k : Nat) : -16 ≤ agK k ∧ agK k ≤ 15 ∧ -32 ≤ pwK k ∧ pwK k ≤ 31 := by unfold agK pwK; omega
set_option maxHeartbeats 1000000 in
set_option maxRecDepth 100000 in
theorem dF_sg {kd : Nat} {ag pw : Int} (h : vkd kd ag pw) (v : Rat) : dF (sg (ky kd ag pw) v) = addF (dt1 kd ag pw v) (dt2 kd ag pw v) := by
  have hoA := (vkd_ok h).1
  unfold vkd at h
  obtain ⟨hp1, hp2, h⟩ := h
  funext k
  have hk := okA_k k
  have hdec := ky_dec k
  have e1 : dt1 kd ag pw v = sg (ky kd ag (pw - 1)) (v * (pw : Rat)) := by
    unfold dt1 dl nkey nval
    by_cases c : ag = 0
    · rw [if_pos c, if_pos c, if_neg (by omega)]
      have : kd = 0 := by omega
      rw [this, c]
    · rw [if_neg c, if_neg (by omega), if_neg c, if_neg (by omega)]
  have i1 : okk k ∧ s1K k = ky kd ag pw ↔ k = ky kd ag (pw - 1) := by
    constructor
    · intro ⟨⟨a1, a2, a3, a4⟩, a5⟩
      obtain ⟨x1, x2, x3⟩ := ky_inj (by unfold okA; omega) hoA a5
      rw [← hdec, x1, x2]; congr 1; omega
    · intro e
      have o' : okA ag (pw - 1) := by unfold okA at hoA ⊢; omega
      have d1 : kdK k = kd := by rw [e]; exact kdK_ky o'
      have d2 : agK k = ag := by rw [e]; exact agK_ky o'
      have d3 : pwK k = pw - 1 := by rw [e]; exact pwK_ky o'
      refine ⟨?_, ?_⟩
      · unfold okk wfk; rw [d1, d2, d3]; omega
      · unfold s1K; rw [d1, d2, d3]; congr 1; omega
  have e2 : ∃ kd' ag' pw' c, dt2 kd ag pw v = (if kd = 0 then fun _ => 0 else sg (ky kd' ag' pw') (v * ((c : Int) : Rat))) ∧ (kd ≠ 0 → okA ag' pw' ∧ ((okk k ∧ s2K k = ky kd ag pw) ↔ k = ky kd' ag' pw') ∧ (k = ky kd' ag' pw' → cf2 k = c)) := by
    have dec : ∀ {kd' : Nat} {ag' pw' : Int}, okA ag' pw' → k = ky kd' ag' pw' → kdK k = kd' ∧ agK k = ag' ∧ pwK k = pw' := by
      intro kd' ag' pw' o e
      rw [e]; exact ⟨kdK_ky o, agK_ky o, pwK_ky o⟩
    rcases h with ⟨rfl, h⟩ | ⟨rfl, h⟩ | ⟨rfl, h⟩ | ⟨rfl | rfl, h⟩
    · exact ⟨0, 0, 0, 0, rfl, fun h => absurd rfl h⟩
    ·
      by_cases c : ag = 1
      · subst c
        have o' : okA 0 (pw - 1) := by unfold okA; omega
        refine ⟨0, 0, pw - 1, 1, ?_, fun _ => ⟨o', ?_, ?_⟩⟩
        · unfold dt2 dl nkey nval; simp
        · constructor
          · intro ⟨⟨a1, a2, a3, a4⟩, a5⟩
            unfold wfk at a4
            unfold s2K at a5
            split at a5
            · obtain ⟨x1, x2, x3⟩ := ky_inj (by unfold okA; omega) hoA a5
              rw [← hdec]; congr 1 <;> omega
            · split at a5
              · have := congrArg kdK a5; rw [kdK_ky hoA] at this; omega
              · split at a5
                · have := (ky_inj (by unfold okA; omega) hoA a5).1; omega
                · have := (ky_inj (by unfold okA; omega) hoA a5).1; omega
          · intro e
            obtain ⟨d1, d2, d3⟩ := dec o' e
            refine ⟨?_, ?_⟩
            · unfold okk wfk; rw [d1, d2, d3]; omega
            · unfold s2K; rw [d1, d2, d3, if_pos (by omega)]; congr 1 <;> omega
        · intro e
          obtain ⟨d1, d2, d3⟩ := dec o' e
          unfold cf2; rw [d1, d2, if_pos (by omega)]; omega
      · have o' : okA (ag - 1) (pw - 1) := by unfold okA; omega
        refine ⟨1, ag - 1, pw - 1, ag, ?_, fun _ => ⟨o', ?_, ?_⟩⟩
        · unfold dt2 dl nkey nval
          rw [if_neg (by omega), if_pos rfl, if_neg (by omega), if_neg (by omega), if_neg (by omega), if_neg (by omega)]; rfl
        · constructor
          · intro ⟨⟨a1, a2, a3, a4⟩, a5⟩
            unfold wfk at a4
            unfold s2K at a5
            split at a5
            · obtain ⟨x1, x2, x3⟩ := ky_inj (by unfold okA; omega) hoA a5
              rw [← hdec]; congr 1 <;> omega
            · split at a5
              · have := congrArg kdK a5; rw [kdK_ky hoA] at this; omega
              · split at a5
                · have := (ky_inj (by unfold okA; omega) hoA a5).1; omega
                · have := (ky_inj (by unfold okA; omega) hoA a5).1; omega
          · intro e
            obtain ⟨d1, d2, d3⟩ := dec o' e
            refine ⟨?_, ?_⟩
            · unfold okk wfk; rw [d1, d2, d3]; omega
            · unfold s2K; rw [d1, d2, d3, if_pos (by omega)]; congr 1 <;> omega
        · intro e
          obtain ⟨d1, d2, d3⟩ := dec o' e
          unfold cf2; rw [d1, d2, if_pos (by omega)]; omega
    ·
      refine ⟨2, ag, pw, ag, ?_, fun _ => ⟨hoA, ?_, ?_⟩⟩
      · unfold dt2 dl nkey nval
        rw [if_neg (by omega), if_neg (by omega), if_pos rfl, if_neg (by omega), if_neg (by omega), if_neg (by omega), if_neg (by omega)]; rfl
      · constructor
        · intro ⟨⟨a1, a2, a3, a4⟩, a5⟩
          unfold s2K at a5
          split at a5
          · have := (ky_inj (by unfold okA; omega) hoA a5).1; omega
          · split at a5
            · exact a5
            · split at a5
              · have := (ky_inj (by unfold okA; omega) hoA a5).1; omega
              · have := (ky_inj (by unfold okA; omega) hoA a5).1; omega
        · intro e
          obtain ⟨d1, d2, d3⟩ := dec hoA e
          refine ⟨?_, ?_⟩
          · unfold okk wfk; rw [d1, d2, d3]; omega
          · unfold s2K; rw [d1, if_neg (by omega), if_pos rfl]; exact e
      · intro e
        obtain ⟨d1, d2, d3⟩ := dec hoA e
        unfold cf2; rw [d1, d2, if_neg (by omega), if_neg (by omega)]
    ·
      refine ⟨4, ag, pw, ag, ?_, fun _ => ⟨hoA, ?_, ?_⟩⟩
      · unfold dt2 dl nkey nval
        rw [if_neg (by omega), if_neg (by omega), if_neg (by omega), if_pos rfl, if_neg (by omega), if_neg (by omega), if_neg (by omega), if_neg (by omega)]; rfl
      · constructor
        · intro ⟨⟨a1, a2, a3, a4⟩, a5⟩
          unfold wfk at a4
          unfold s2K at a5
          split at a5
          · have := (ky_inj (by unfold okA; omega) hoA a5).1; omega
          · split at a5
            · have := congrArg kdK a5; rw [kdK_ky hoA] at this; omega
            · split at a5
              · have := (ky_inj (by unfold okA; omega) hoA a5).1; omega
              · obtain ⟨x1, x2, x3⟩ := ky_inj (by unfold okA; omega) hoA a5
                rw [← hdec]; congr 1 <;> omega
        · intro e
          obtain ⟨d1, d2, d3⟩ := dec hoA e
          refine ⟨?_, ?_⟩
          · unfold okk wfk; rw [d1, d2, d3]; omega
          · unfold s2K; rw [d1, d2, d3, if_neg (by omega), if_neg (by omega), if_neg (by omega)]
      · intro e
        obtain ⟨d1, d2, d3⟩ := dec hoA e
        unfold cf2; rw [d1, d2, if_neg (by omega), if_neg (by omega)]
    ·
      refine ⟨3, ag, pw, -ag, ?_, fun _ => ⟨hoA, ?_, ?_⟩⟩
      · unfold dt2 dl nkey nval
        rw [if_neg (by omega), if_neg (by omega), if_neg (by omega), if_neg (by omega), if_neg (by omega), if_neg (by omega), if_neg (by omega), if_neg (by omega)]; rfl
      · constructor
        · intro ⟨⟨a1, a2, a3, a4⟩, a5⟩
          unfold wfk at a4
          unfold s2K at a5
          split at a5
          · have := (ky_inj (by unfold okA; omega) hoA a5).1; omega
          · split at a5
            · have := congrArg kdK a5; rw [kdK_ky hoA] at this; omega
            · split at a5
              · obtain ⟨x1, x2, x3⟩ := ky_inj (by unfold okA; omega) hoA a5
                rw [← hdec]; congr 1 <;> omega
              · have := (ky_inj (by unfold okA; omega) hoA a5).1; omega
        · intro e
          obtain ⟨d1, d2, d3⟩ := dec hoA e
          refine ⟨?_, ?_⟩
          · unfold okk wfk; rw [d1, d2, d3]; omega
          · unfold s2K; rw [d1, d2, d3, if_neg (by omega), if_neg (by omega), if_pos rfl]
      · intro e
        obtain ⟨d1, d2, d3⟩ := dec hoA e
        unfold cf2; rw [d1, d2, if_neg (by omega), if_pos rfl]
  obtain ⟨kd', ag', pw', c, f1, f2⟩ := e2
  unfold dF addF
  rw [e1, f1]
  have p1 : (if okk k then sg (ky kd ag pw) v (s1K k) * ((pwK k + 1 : Int) : Rat) else 0) = sg (ky kd ag (pw - 1)) (v * (pw : Rat)) k := by
    unfold sg
    by_cases x : k = ky kd ag (pw - 1)
    · have y := i1.mpr x
      have o' : okA ag (pw - 1) := by unfold okA at hoA ⊢; omega
      have d3 : pwK k = pw - 1 := by rw [x]; exact pwK_ky o'
      rw [if_pos y.1, if_pos y.2, if_pos x, d3, show pw - 1 + 1 = pw by omega]
    · rw [if_neg x]
      by_cases y : okk k
      · rw [if_pos y, if_neg (fun e => x (i1.mp ⟨y, e⟩)), Rat.zero_mul]
      · rw [if_neg y]
  have p2 : (if okk k then sg (ky kd ag pw) v (s2K k) * ((cf2 k : Int) : Rat) else 0) = (if kd = 0 then (fun _ => (0 : Rat)) else sg (ky kd' ag' pw') (v * ((c : Int) : Rat))) k := by
    by_cases z : kd = 0
    · rw [if_pos z]
      show _ = (0 : Rat)
      by_cases y : okk k
      · rw [if_pos y]
        unfold sg
        by_cases w : s2K k = ky kd ag pw
        · exfalso
          unfold okk wfk at y
          unfold s2K at w
          split at w
          · have := (ky_inj (by unfold okA; omega) hoA w).1; omega
          · split at w
            · have := congrArg kdK w; rw [kdK_ky hoA] at this; omega
            · split at w
              · have := (ky_inj (by unfold okA; omega) hoA w).1; omega
              · have := (ky_inj (by unfold okA; omega) hoA w).1; omega
        · rw [if_neg w, Rat.zero_mul]
      · rw [if_neg y]
    · obtain ⟨g1, g2, g3⟩ := f2 z
      rw [if_neg z]
      unfold sg
      by_cases x : k = ky kd' ag' pw'
      · have y := g2.mpr x
        rw [if_pos y.1, if_pos y.2, if_pos x, g3 x]
      · rw [if_neg x]
        by_cases y : okk k
        · rw [if_pos y, if_neg (fun e => x (g2.mp ⟨y, e⟩)), Rat.zero_mul]
        · rw [if_neg y]
  rw [← p1, ← p2]
  by_cases y : okk k
  · rw [if_pos y, if_pos y, if_pos y]
  · rw [if_neg y, if_neg y, if_neg y, Rat.add_zero]
set_option maxHeartbeats 1000000 in
set_option maxRecDepth 100000 in
theorem ratInt (c : Int) : ((c : Int) : Rat) = Rat.divInt c 1 := by
  have h := Rat.num_divInt_den ((c : Int) : Rat)
  rw [← h]; rfl
set_option maxHeartbeats 1000000 in
set_option maxRecDepth 100000 in
theorem rat_mul_int (v : Rat) (c : Int) : Rat.divInt (v.num * c) v.den = v * ((c : Int) : Rat) := by
  rw [ratInt, rat_mul_divInt, Int.mul_one]
def b13 (v : Rat) : Prop := v.num.natAbs ≤ 130000000000 ∧ v.den ≤ 100000
set_option maxHeartbeats 1000000 in
set_option maxRecDepth 100000 in
theorem b13_mul {v : Rat} (h : v.num.natAbs ≤ 10000000000 ∧ v.den ≤ 100000) {c : Int} (hc : c.natAbs ≤ 13) : b13 (v * ((c : Int) : Rat)) := by
  rw [← rat_mul_int]
  have h1 := num_le (v.num * c) v.den
  have h2 := absmul h.1 hc
  have h3 : (Rat.divInt (v.num * c) v.den).den ≤ _ := den_le (by have := v.den_nz; omega)
  unfold b13; omega
set_option maxHeartbeats 1000000 in
set_option maxRecDepth 100000 in
theorem bd_13 {v : Rat} (hv : b13 v) {p q : Int} (hp : p.natAbs ≤ 130000000000) (hq : q.natAbs ≤ 100000) : s64 (v.num * q + p * v.den) ∧ s64 (v.num * q + -p * v.den) ∧ (v.den * q).natAbs < 281474976710656 := by
  have h1 := absmul hv.1 hq
  have h2 : (p * (v.den : Int)).natAbs ≤ 130000000000 * 100000 := absmul hp (by have := hv.2; omega)
  have h3 : ((v.den : Int) * q).natAbs ≤ 100000 * 100000 := absmul (by have := hv.2; omega) hq
  rw [Int.neg_mul]
  unfold s64
  omega
def prt (A G : Nat → Rat) : Prop := ∀ k, A k = 0 ∨ A k = G k
set_option maxHeartbeats 1000000 in
set_option maxRecDepth 100000 in
theorem prt_b {A G : Nat → Rat} (h : prt A G) (hG : bF G) (k : Nat) : (A k).num.natAbs ≤ 10000000000 ∧ (A k).den ≤ 100000 := by
  rcases h k with e | e
  · rw [e]; decide
  · rw [e]; exact hG k
set_option maxHeartbeats 1000000 in
set_option maxRecDepth 100000 in
theorem prt_up {A G : Nat → Rat} (h : prt A G) (k : Nat) : prt (upF A k (G k)) G := by
  intro j
  by_cases e : j = k
  · subst e; rw [upF_self]; exact Or.inr rfl
  · rw [upF_ne _ _ e]; exact h j
set_option maxHeartbeats 1000000 in
set_option maxRecDepth 100000 in
theorem cf_le {k : Nat} (h : okk k) : (pwK k + 1).natAbs ≤ 13 ∧ (cf2 k).natAbs ≤ 13 := by
  unfold okk at h
  have := okA_k k
  unfold cf2
  refine ⟨by omega, ?_⟩
  split
  · unfold wfk at h; omega
  · split
    · unfold wfk at h; omega
    · unfold wfk at h
      have hx := h
      omega
set_option maxHeartbeats 1000000 in
set_option maxRecDepth 100000 in
theorem rat0_b13 : b13 0 := by unfold b13; decide
set_option maxHeartbeats 1000000 in
set_option maxRecDepth 100000 in
theorem dF_b1 {A G : Nat → Rat} (h : prt A G) (hG : bF G) {k : Nat} (h0 : A (s1K k) = 0) : b13 (dF A k) := by
  unfold dF
  by_cases c : okk k
  · rw [if_pos c, h0, Rat.zero_mul, Rat.zero_add]; exact b13_mul (prt_b h hG _) (cf_le c).2
  · rw [if_neg c]; exact rat0_b13
set_option maxHeartbeats 1000000 in
set_option maxRecDepth 100000 in
theorem dF_b2 {A G : Nat → Rat} (h : prt A G) (hG : bF G) {k : Nat} (h0 : A (s2K k) = 0) : b13 (dF A k) := by
  unfold dF
  by_cases c : okk k
  · rw [if_pos c, h0, Rat.zero_mul, Rat.add_zero]; exact b13_mul (prt_b h hG _) (cf_le c).1
  · rw [if_neg c]; exact rat0_b13
set_option maxHeartbeats 1000000 in
set_option maxRecDepth 100000 in
theorem key1 {kd : Nat} {ag pw : Int} (h : vkd kd ag pw) : nkey kd ag (pw - 1) = ky kd ag (pw - 1) ∧ s1K (ky kd ag (pw - 1)) = ky kd ag pw := by
  unfold vkd at h
  have o' : okA ag (pw - 1) := by unfold okA; omega
  refine ⟨?_, ?_⟩
  · unfold nkey
    by_cases c : ag = 0
    · rw [if_pos c]
      have : kd = 0 := by omega
      rw [this, c]
    · rw [if_neg c, if_neg (by omega)]
  · unfold s1K; rw [kdK_ky o', agK_ky o', pwK_ky o']; congr 1; omega
def kd2 (kd : Nat) (ag : Int) : Nat := if kd = 1 then 1 else if kd = 3 then 4 else if kd = 4 then 3 else kd
set_option maxHeartbeats 1000000 in
set_option maxRecDepth 100000 in
theorem key2 {kd : Nat} {ag pw : Int} (h : vkd kd ag pw) (h0 : kd ≠ 0) : ∃ k2, (if kd = 1 then nkey 1 (ag - 1) (pw - 1) else nkey (kd2 kd ag) ag pw) = k2 ∧ s2K k2 = ky kd ag pw ∧ k2 ≠ ky kd ag (pw - 1) := by
  unfold vkd at h
  refine ⟨_, rfl, ?_⟩
  by_cases c1 : kd = 1
  · subst c1
    rw [if_pos rfl]
    unfold nkey
    by_cases c : ag - 1 = 0
    · have o' : okA 0 (pw - 1) := by unfold okA; omega
      rw [if_pos c]
      refine ⟨?_, fun e => ?_⟩
      · unfold s2K; rw [kdK_ky o', agK_ky o', pwK_ky o', if_pos (by omega)]; congr 1 <;> omega
      · have := (ky_inj o' (by unfold okA; omega) e).1; omega
    · have o' : okA (ag - 1) (pw - 1) := by unfold okA; omega
      rw [if_neg c, if_neg (by omega)]
      refine ⟨?_, fun e => ?_⟩
      · unfold s2K; rw [kdK_ky o', agK_ky o', pwK_ky o', if_pos (by omega)]; congr 1 <;> omega
      · have := (ky_inj o' (by unfold okA; omega) e).2.1; omega
  · rw [if_neg c1]
    have o' : okA ag pw := by unfold okA; omega
    have e : nkey (kd2 kd ag) ag pw = ky (kd2 kd ag) ag pw := by
      have : kd = 2 ∨ kd = 3 ∨ kd = 4 := by omega
      unfold nkey
      rw [if_neg (by omega), if_neg]
      unfold kd2
      rcases this with rfl | rfl | rfl
      · simp
      · simp; omega
      · simp; omega
    rw [e]
    refine ⟨?_, fun e => ?_⟩
    · unfold s2K; rw [kdK_ky o', agK_ky o', pwK_ky o']
      unfold kd2
      have : kd = 2 ∨ kd = 3 ∨ kd = 4 := by omega
      rcases this with rfl | rfl | rfl <;> simp
    · have := (ky_inj o' (by unfold okA; omega) e).2.2; omega
set_option maxHeartbeats 1000000 in
set_option maxRecDepth 100000 in
theorem dl_ne {kd : Nat} {ag pw : Int} {v : Rat} {k : Nat} (h : k ≠ nkey kd ag pw) : dl kd ag pw v k = 0 := by
  unfold dl sg; rw [if_neg h]
section CDer
variable {w : SumS} {n : Nat} {Kw : Nat → Nat} {A G : Nat → Rat}
set_option maxHeartbeats 1000000 in
set_option maxRecDepth 100000 in
theorem cder_1 (R : sRep w n Kw (dF A)) (hn : n < 200) (hp : prt A G) (hG : bF G) {kd : Nat} {ag pw : Int} (hv : vkd kd ag pw) (h0 : A (ky kd ag pw) = 0) :
    ∃ w' n' K', f_X4_put 200 w (nI kd) (I32 ag) (I32 pw - 1) (I64 (G (ky kd ag pw)).num * (I32 pw).toInt64) (I64 ((G (ky kd ag pw)).den : Int)) = some w' ∧ sRep w' n' K' (addF (dF A) (dt1 kd ag pw (G (ky kd ag pw)))) ∧ gS_ov w' = gS_ov w ∧ n' ≤ n + 1 := by
  obtain ⟨k1, k2⟩ := key1 hv
  have hv' := hv
  unfold vkd at hv'
  have e1 : I32 pw - 1 = I32 (pw - 1) := I32_sub pw 1
  rw [e1, toInt64_I (by omega) (by omega), I64_mul]
  have hg := hG (ky kd ag pw)
  have hb := bd_13 (dF_b1 (k := ky kd ag (pw - 1)) hp hG (by rw [k2]; exact h0)) (p := (G (ky kd ag pw)).num * pw) (q := ((G (ky kd ag pw)).den : Int)) (by have := absmul hg.1 (show pw.natAbs ≤ 13 by omega); omega) (by omega)
  obtain ⟨w', n', K', q1, q2, q3, q4⟩ := put_eq (nS := 200) (by omega) R hn (kd := kd) (ag := ag) (pw := pw - 1) (by unfold okT; omega) ((G (ky kd ag pw)).num * pw) ((G (ky kd ag pw)).den : Int) (by have := (G (ky kd ag pw)).den_nz; omega) (by unfold bdK; rw [k1]; exact hb)
  refine ⟨w', n', K', q1, ?_, q3, q4⟩
  rw [rat_mul_int] at q2; exact q2
set_option maxHeartbeats 1000000 in
set_option maxRecDepth 100000 in
theorem cder_2 {kd : Nat} {ag pw : Int} (R : sRep w n Kw (addF (dF A) (dt1 kd ag pw (G (ky kd ag pw))))) (hn : n < 200) (hp : prt A G) (hG : bF G) (hv : vkd kd ag pw) (h0 : A (ky kd ag pw) = 0) (hk0 : kd ≠ 0) (kd' : Nat) (ag' pw' : Int) (c : Int) (hc : c.natAbs ≤ 13) (hdt : dt2 kd ag pw (G (ky kd ag pw)) = dl kd' ag' pw' (G (ky kd ag pw) * ((c : Int) : Rat))) (hkk : nkey kd' ag' pw' = if kd = 1 then nkey 1 (ag - 1) (pw - 1) else nkey (kd2 kd ag) ag pw) (ok : okT kd' ag' pw') :
    ∃ w' n' K', f_X4_put 200 w (nI kd') (I32 ag') (I32 pw') (I64 ((G (ky kd ag pw)).num * c)) (I64 ((G (ky kd ag pw)).den : Int)) = some w' ∧ sRep w' n' K' (dF (upF A (ky kd ag pw) (G (ky kd ag pw)))) ∧ gS_ov w' = gS_ov w ∧ n' ≤ n + 1 := by
  obtain ⟨k2, e1, e2, e3⟩ := key2 hv hk0
  rw [e1] at hkk
  have hg := hG (ky kd ag pw)
  have hF : addF (dF A) (dt1 kd ag pw (G (ky kd ag pw))) k2 = dF A k2 := by
    show dF A k2 + dt1 kd ag pw (G (ky kd ag pw)) k2 = dF A k2
    unfold dt1
    rw [dl_ne (by rw [(key1 hv).1]; exact e3), Rat.add_zero]
  have hb := bd_13 (dF_b2 (k := k2) hp hG (by rw [e2]; exact h0)) (p := (G (ky kd ag pw)).num * c) (q := ((G (ky kd ag pw)).den : Int)) (by have := absmul hg.1 hc; omega) (by omega)
  obtain ⟨w', n', K', q1, q2, q3, q4⟩ := put_eq (nS := 200) (by omega) R hn ok ((G (ky kd ag pw)).num * c) ((G (ky kd ag pw)).den : Int) (by have := (G (ky kd ag pw)).den_nz; omega) (by unfold bdK; rw [hkk, hF]; exact hb)
  refine ⟨w', n', K', q1, ?_, q3, q4⟩
  rw [rat_mul_int, ← hdt, addF_assoc, ← dF_sg hv, ← dF_add, addF_sg, h0, Rat.zero_add] at q2
  exact q2
end CDer
set_option maxHeartbeats 1000000 in
set_option maxRecDepth 100000 in
theorem dt2_log {ag pw : Int} (v : Rat) : dt2 1 ag pw v = dl 1 (ag - 1) (pw - 1) (v * ((ag : Int) : Rat)) := rfl
set_option maxHeartbeats 1000000 in
set_option maxRecDepth 100000 in
theorem dt2_exp {ag pw : Int} (v : Rat) : dt2 2 ag pw v = dl 2 ag pw (v * ((ag : Int) : Rat)) := rfl
set_option maxHeartbeats 1000000 in
set_option maxRecDepth 100000 in
theorem dt2_sin {ag pw : Int} (v : Rat) : dt2 3 ag pw v = dl 4 ag pw (v * ((ag : Int) : Rat)) := rfl
set_option maxHeartbeats 1000000 in
set_option maxRecDepth 100000 in
theorem dt2_cos {ag pw : Int} (v : Rat) : dt2 4 ag pw v = dl 3 ag pw (v * ((-ag : Int) : Rat)) := rfl
set_option maxHeartbeats 1000000 in
set_option maxRecDepth 100000 in
theorem derive_loop {zA : SumS} {m : Nat} {L : Nat → Nat} {G : Nat → Rat} (RA : sRep zA m L G) (hm : m ≤ 40) (hG : bF G) (hvk : ∀ k, G k ≠ 0 → vk k) : ∀ (d fu i n : Nat) (w : SumS) (Kw : Nat → Nat) (A : Nat → Rat), i + d = m → d < fu → sRep w n Kw (dF A) → n + 2 * d ≤ 200 → (∀ j, j < i → A (L j) = G (L j)) → (∀ k, (∀ j, j < i → L j ≠ k) → A k = 0) → 
    ∃ w' n' K', f_X0_putDerivative_2 200 40 zA fu w (nI i) = some w' ∧ sRep w' n' K' (dF G) ∧ gS_ov w' = gS_ov w ∧ n' ≤ n + 2 * d := by
  intro d
  induction d with
  | zero =>
    intro fu i n w Kw A hi hf R hN h1 h2
    obtain ⟨fu, rfl⟩ : ∃ f, fu = f + 1 := ⟨fu - 1, by omega⟩
    rw [f_X0_putDerivative_2]
    unfold f_X4_size
    rw [Option.bind_some, RA.1, if_pos ((qI_le (by omega) (by omega)).mpr (by omega))]
    have : A = G := by
      funext k
      by_cases c : ∃ j, j < i ∧ L j = k
      · obtain ⟨j, hj, e⟩ := c
        rw [← e]; exact h1 j hj
      · rw [h2 k (fun j hj e => c ⟨j, hj, e⟩)]
        apply Classical.byContradiction
        intro h9
        obtain ⟨j, hj, e⟩ := RA.2.2.2.2.2.2 k (fun h8 => h9 h8.symm)
        exact c ⟨j, by omega, e⟩
    rw [this] at R
    exact ⟨w, n, Kw, rfl, R, rfl, by omega⟩
  | succ d ih =>
    intro fu i n w Kw A hi hf R hN h1 h2
    obtain ⟨fu, rfl⟩ : ∃ f, fu = f + 1 := ⟨fu - 1, by omega⟩
    have hi' : i < m := by omega
    rw [f_X0_putDerivative_2]
    unfold f_X4_size
    rw [Option.bind_some, RA.1, if_neg (fun h => by have := (qI_le (by omega) (by omega)).mp h; omega), kindAt_eq RA hm (by omega) hi', argAt_eq RA hm (by omega) hi', powAt_eq RA hm (by omega) hi', topAt_eq RA hm (by omega) hi', bottomAt_eq RA hm (by omega) hi']
    simp only [Option.bind_some]
    have hne : ∀ j, j < i → L j ≠ L i := fun j hj e => by have := RA.inj (by omega) hi' e; omega
    have hA0 : A (L i) = 0 := h2 _ hne
    have hp : prt A G := by
      intro k
      by_cases c : ∃ j, j < i ∧ L j = k
      · obtain ⟨j, hj, e⟩ := c
        rw [← e]; exact Or.inr (h1 j hj)
      · exact Or.inl (h2 k (fun j hj e => c ⟨j, hj, e⟩))
    have hvd := (vk_dec (hvk _ (RA.2.2.2.2.2.1 i hi').1)).1
    have hdec := ky_dec (L i)
    have next : ∀ (w' : SumS) (n' : Nat) (K' : Nat → Nat), sRep w' n' K' (dF (upF A (L i) (G (L i)))) → gS_ov w' = gS_ov w → n' ≤ n + 2 → ∃ w9 n9 K9, f_X0_putDerivative_122 200 40 zA (fun zS_ x2_ => f_X0_putDerivative_2 200 40 zA fu zS_ x2_) w' (nI i) = some w9 ∧ sRep w9 n9 K9 (dF G) ∧ gS_ov w9 = gS_ov w ∧ n9 ≤ n + 2 * (d + 1) := by
      intro w' n' K' r1 r2 r3
      unfold f_X0_putDerivative_122
      rw [nI_add1]
      obtain ⟨w9, n9, K9, p1, p2, p3, p4⟩ := ih fu (i + 1) n' w' K' _ (by omega) (by omega) r1 (by omega) (by
        intro j hj
        by_cases e : j = i
        · subst e; rw [upF_self]
        · rw [upF_ne _ _ (hne j (by omega))]; exact h1 j (by omega)) (by
        intro k hk
        rw [upF_ne _ _ (fun e => hk i (by omega) e.symm)]
        exact h2 k (fun j hj => hk j (by omega)))
      exact ⟨w9, n9, K9, p1, p2, p3.trans r2, by omega⟩
    generalize hkd : kdK (L i) = kd at *
    generalize hag : agK (L i) = ag at *
    generalize hpw : pwK (L i) = pw at *
    rw [← hdec] at next hA0 ⊢
    obtain ⟨w1, n1, K1, a1, a2, a3, a4⟩ := cder_1 R (by omega) hp hG hvd hA0
    rw [a1, Option.bind_some]
    have hcs := hvd
    unfold vkd at hcs
    by_cases c1 : kd = 1
    · subst c1
      rw [if_neg (show ¬ ¬ nI 1 = 1 by decide)]
      obtain ⟨w2, n2, K2, b1, b2, b3, b4⟩ := cder_2 a2 (by omega) hp hG hvd hA0 (by omega) 1 (ag - 1) (pw - 1) ag (by omega) (dt2_log _) (by rw [if_pos rfl]) (by unfold okT; omega)
      have e1 : I32 pw - 1 = I32 (pw - 1) := I32_sub pw 1
      have e2 : I32 ag - 1 = I32 (ag - 1) := I32_sub ag 1
      have e3 : (1 : Int32) = nI 1 := rfl
      rw [e1, e2, toInt64_I (by omega) (by omega), I64_mul, show (f_X4_put 200 w1 1 (I32 (ag - 1)) (I32 (pw - 1)) (I64 ((G (ky 1 ag pw)).num * ag)) (I64 ((G (ky 1 ag pw)).den : Int))) = some w2 from b1, Option.bind_some]
      exact next w2 n2 K2 b2 (b3.trans a3) (by omega)
    · rw [if_pos (show ¬ nI kd = 1 from fun h => c1 ((nI_inj (m := 1) (by omega) (by omega)).mp h))]
      by_cases c0 : kd = 0
      · subst c0
        rw [if_pos (show nI 0 = 0 from rfl)]
        have hd0 : addF (dF A) (dt1 0 ag pw (G (ky 0 ag pw))) = dF (upF A (ky 0 ag pw) (G (ky 0 ag pw))) := by
          have : dt2 0 ag pw (G (ky 0 ag pw)) = fun _ => 0 := rfl
          have h9 := dF_sg hvd (G (ky 0 ag pw))
          rw [this, addF_0] at h9
          rw [← h9, ← dF_add, addF_sg, hA0, Rat.zero_add]
        rw [hd0] at a2
        exact next w1 n1 K1 a2 a3 (by omega)
      · rw [if_neg (show ¬ nI kd = 0 from fun h => c0 ((nI_inj (m := 0) (by omega) (by omega)).mp h))]
        unfold f_X0_turned f_X0_signDerived
        have hc : kd = 2 ∨ kd = 3 ∨ kd = 4 := by omega
        rcases hc with rfl | rfl | rfl
        · rw [if_pos (show ¬ nI 2 = 3 by decide), if_pos (show ¬ nI 2 = 4 by decide), if_pos (show ¬ nI 2 = 4 by decide), Option.bind_some, Option.bind_some]
          obtain ⟨w2, n2, K2, b1, b2, b3, b4⟩ := cder_2 a2 (by omega) hp hG hvd hA0 (by omega) 2 ag pw ag (by omega) (dt2_exp _) (by rw [if_neg (by omega)]; rfl) (by unfold okT; omega)
          have e4 : (1 : Int32).toInt64 = I64 1 := by decide
          rw [toInt64_I (by omega) (by omega), e4, I64_mul, I64_mul, Int.mul_one, b1, Option.bind_some]
          exact next w2 n2 K2 b2 (b3.trans a3) (by omega)
        · rw [if_neg (show ¬ ¬ nI 3 = 3 by decide), if_pos (show ¬ nI 3 = 4 by decide), Option.bind_some, Option.bind_some]
          obtain ⟨w2, n2, K2, b1, b2, b3, b4⟩ := cder_2 a2 (by omega) hp hG hvd hA0 (by omega) 4 ag pw ag (by omega) (dt2_sin _) (by rw [if_neg (by omega)]; rfl) (by unfold okT; omega)
          have e4 : (1 : Int32).toInt64 = I64 1 := by decide
          rw [toInt64_I (by omega) (by omega), e4, I64_mul, I64_mul, Int.mul_one, show (f_X4_put 200 w1 4 (I32 ag) (I32 pw) (I64 ((G (ky 3 ag pw)).num * ag)) (I64 ((G (ky 3 ag pw)).den : Int))) = some w2 from b1, Option.bind_some]
          exact next w2 n2 K2 b2 (b3.trans a3) (by omega)
        · rw [if_pos (show ¬ nI 4 = 3 by decide), if_neg (show ¬ ¬ nI 4 = 4 by decide), if_neg (show ¬ ¬ nI 4 = 4 by decide), Option.bind_some, Option.bind_some]
          obtain ⟨w2, n2, K2, b1, b2, b3, b4⟩ := cder_2 a2 (by omega) hp hG hvd hA0 (by omega) 3 ag pw (-ag) (by omega) (dt2_cos _) (by rw [if_neg (by omega)]; rfl) (by unfold okT; omega)
          have e4 : (-1 : Int32).toInt64 = I64 (-1) := by decide
          have e5 : (G (ky 4 ag pw)).num * ag * -1 = (G (ky 4 ag pw)).num * -ag := by rw [Int.mul_neg, Int.mul_one, Int.mul_neg]
          rw [toInt64_I (by omega) (by omega), e4, I64_mul, I64_mul, e5, show (f_X4_put 200 w1 3 (I32 ag) (I32 pw) (I64 ((G (ky 4 ag pw)).num * -ag)) (I64 ((G (ky 4 ag pw)).den : Int))) = some w2 from b1, Option.bind_some]
          exact next w2 n2 K2 b2 (b3.trans a3) (by omega)
set_option maxHeartbeats 1000000 in
set_option maxRecDepth 100000 in
theorem nI_div {n m : Nat} (h : n < 2147483648) (h' : m < 2147483648) : nI n / nI m = nI (n / m) := by
  have e : ((n : Int).tdiv m) = ((n / m : Nat) : Int) := by rw [Int.ofNat_tdiv]
  have l : n / m ≤ n := Nat.div_le_self _ _
  rw [← Int32.toInt_inj, Int32.toInt_div, qI_toInt h, qI_toInt h', qI_toInt (by omega), e]
  generalize n / m = x at *
  exact Int.bmod_eq_of_le (by omega) (by omega)
set_option maxHeartbeats 1000000 in
set_option maxRecDepth 100000 in
theorem div25 {c : Nat} (h : c < 1150) : nI c / (25 : Int32) = nI (c / 25) := nI_div (m := 25) (by omega) (by omega)
set_option maxHeartbeats 1000000 in
set_option maxRecDepth 100000 in
theorem mod25 {c : Nat} (h : c < 1150) : nI c - nI c / (25 : Int32) * (25 : Int32) = nI (c % 25) := by
  rw [div25 h]
  have : nI (c / 25) * (25 : Int32) = nI (c / 25 * 25) := nI_mul _ 25
  rw [this, nI_sub (by omega)]; congr 1; omega
set_option maxHeartbeats 1000000 in
set_option maxRecDepth 100000 in
theorem nval_ne {kd : Nat} {ag : Int} {v : Rat} (h : kd = 3 → ag ≠ 0) (hv : v ≠ 0) : nval kd ag v ≠ 0 := by
  unfold nval
  by_cases c : ag = 0
  · rw [if_pos c, if_neg (fun e => h e c)]; exact hv
  · rw [if_neg c]
    split
    · intro e; apply hv; rw [← Rat.neg_neg v, e]; rfl
    · exact hv
set_option maxHeartbeats 1000000 in
set_option maxRecDepth 100000 in
theorem mul_int_ne {v : Rat} (hv : v ≠ 0) {c : Int} (hc : c ≠ 0) : v * ((c : Int) : Rat) ≠ 0 := by
  intro h
  rcases Rat.mul_eq_zero.mp h with e | e
  · exact hv e
  · apply hc
    have := congrArg Rat.num e
    exact this
section MDer
variable {z : MdS} {A G : Nat → Rat}
set_option maxHeartbeats 1000000 in
set_option maxRecDepth 100000 in
theorem mder_1 (R : rRep z 8 (dF A)) (hp : prt A G) (hG : bF G) {kd : Nat} {ag pw : Int} (hv : vkd kd ag pw) (h0 : A (ky kd ag pw) = 0) (hg0 : G (ky kd ag pw) ≠ 0) :
    ∃ z', f_X7_addTerm z 8 (nI kd) (I32 ag) (I32 pw - 1) (I64 (G (ky kd ag pw)).num * (I32 pw).toInt64) (I64 ((G (ky kd ag pw)).den : Int)) = some z' ∧ rRep z' 8 (addF (dF A) (dt1 kd ag pw (G (ky kd ag pw)))) ∧ mSame z z' ∧ mRow z z' 8 ∧ (gM_isFull z' = 0 ↔ gM_isFull z = 0 ∧ pw ≠ -12) := by
  obtain ⟨k1, k2⟩ := key1 hv
  have hv' := hv
  unfold vkd at hv'
  have e1 : I32 pw - 1 = I32 (pw - 1) := I32_sub pw 1
  rw [e1, toInt64_I (by omega) (by omega), I64_mul]
  have hg := hG (ky kd ag pw)
  have hpb := absmul hg.1 (show pw.natAbs ≤ 13 by omega)
  have hb := bd_13 (dF_b1 (k := ky kd ag (pw - 1)) hp hG (by rw [k2]; exact h0)) (p := (G (ky kd ag pw)).num * pw) (q := ((G (ky kd ag pw)).den : Int)) (by omega) (by omega)
  obtain ⟨z', q1, q2, q3, q4, q5, q6, q7, q8, q9⟩ := addTerm_eq' z 8 (by omega) (dF A) R (kd := kd) (ag := ag) (pw := pw - 1) (by unfold okT; omega) (by omega) ((G (ky kd ag pw)).num * pw) ((G (ky kd ag pw)).den : Int) (by have := (G (ky kd ag pw)).den_nz; omega) (r64_of_abs hpb (by omega)) (by unfold bdK; rw [k1]; exact hb)
  rw [rat_mul_int] at q6 q8 q9
  refine ⟨z', q1, q6, q2, q3, ?_⟩
  rw [k1] at q7 q8 q9
  have o' : okA ag (pw - 1) := by unfold okA; omega
  by_cases c : pw = -12
  · have hn : ¬ vk (ky kd ag (pw - 1)) := by rw [vk_iff o']; unfold vkd; omega
    have := q8 hn (nval_ne (by omega) (mul_int_ne hg0 (by omega)))
    constructor
    · intro h; rw [this] at h; exact absurd h (by decide)
    · intro h; exact absurd c h.2
  · have hy : vk (ky kd ag (pw - 1)) := by rw [vk_iff o']; unfold vkd; omega
    rw [q7 hy]
    exact ⟨fun h => ⟨h, c⟩, fun h => h.1⟩
set_option maxHeartbeats 1000000 in
set_option maxRecDepth 100000 in
theorem mder_2 {kd : Nat} {ag pw : Int} (R : rRep z 8 (addF (dF A) (dt1 kd ag pw (G (ky kd ag pw))))) (hp : prt A G) (hG : bF G) (hv : vkd kd ag pw) (h0 : A (ky kd ag pw) = 0) (hk0 : kd ≠ 0) (kd' : Nat) (ag' pw' : Int) (c : Int) (hc : c.natAbs ≤ 13) (hdt : dt2 kd ag pw (G (ky kd ag pw)) = dl kd' ag' pw' (G (ky kd ag pw) * ((c : Int) : Rat))) (hkk : nkey kd' ag' pw' = if kd = 1 then nkey 1 (ag - 1) (pw - 1) else nkey (kd2 kd ag) ag pw) (ok : okT kd' ag' pw') (hv' : (kd' = 1 → 0 ≤ ag') ∧ (kd' = 0 → ag' = 0)) (hvk : vk (nkey kd' ag' pw') ∨ (gM_isFull z ≠ 0)) :
    ∃ z', f_X7_addTerm z 8 (nI kd') (I32 ag') (I32 pw') (I64 ((G (ky kd ag pw)).num * c)) (I64 ((G (ky kd ag pw)).den : Int)) = some z' ∧ rRep z' 8 (dF (upF A (ky kd ag pw) (G (ky kd ag pw)))) ∧ mSame z z' ∧ mRow z z' 8 ∧ (gM_isFull z' = 0 ↔ gM_isFull z = 0) := by
  obtain ⟨k2, e1, e2, e3⟩ := key2 hv hk0
  rw [e1] at hkk
  have hg := hG (ky kd ag pw)
  have hF : addF (dF A) (dt1 kd ag pw (G (ky kd ag pw))) k2 = dF A k2 := by
    show dF A k2 + dt1 kd ag pw (G (ky kd ag pw)) k2 = dF A k2
    unfold dt1
    rw [dl_ne (by rw [(key1 hv).1]; exact e3), Rat.add_zero]
  have hpb := absmul hg.1 hc
  have hb := bd_13 (dF_b2 (k := k2) hp hG (by rw [e2]; exact h0)) (p := (G (ky kd ag pw)).num * c) (q := ((G (ky kd ag pw)).den : Int)) (by omega) (by omega)
  obtain ⟨z', q1, q2, q3, q4, q5, q6, q7, q8, q9⟩ := addTerm_eq' z 8 (by omega) _ R ok hv' ((G (ky kd ag pw)).num * c) ((G (ky kd ag pw)).den : Int) (by have := (G (ky kd ag pw)).den_nz; omega) (r64_of_abs hpb (by omega)) (by unfold bdK; rw [hkk, hF]; exact hb)
  refine ⟨z', q1, ?_, q2, q3, ?_⟩
  · rw [rat_mul_int, ← hdt, addF_assoc, ← dF_sg hv, ← dF_add, addF_sg, h0, Rat.zero_add] at q6
    exact q6
  · by_cases y : vk (nkey kd' ag' pw')
    · rw [q7 y]
    · have hz := hvk.resolve_left y
      by_cases w : nval kd' ag' (Rat.divInt ((G (ky kd ag pw)).num * c) ((G (ky kd ag pw)).den : Int)) = 0
      · rw [q9 y w]
      · rw [q8 y w]
        exact ⟨fun h => absurd h (by decide), fun h => absurd h hz⟩
end MDer
set_option maxHeartbeats 1000000 in
set_option maxRecDepth 100000 in
theorem mderive_loop {G : Nat → Rat} (hG : bF G) (hvk : ∀ k, G k ≠ 0 → vk k) (to a : Nat) (ha : a < 8) : ∀ (d fu c : Nat) (z : MdS) (A : Nat → Rat), c + d = 1150 → d < fu → rRep z 8 (dF A) → rRep z a G → (∀ j, j < c → A (kc j) = G (kc j)) → (∀ k, (∀ j, j < c → kc j ≠ k) → A k = 0) → (gM_isFull z = 0 ↔ ∀ j, j < c → G (kc j) ≠ 0 → pwK (kc j) ≠ -12) →
    ∃ z', f_X7_derive_41 fu z (nI to) (nI a) (nI c) = (f_X7_finish z' (nI to)).bind (fun r => some (r.1, r.2)) ∧ mSame z z' ∧ mRow z z' 8 ∧ rRep z' 8 (dF G) ∧ (gM_isFull z' = 0 ↔ ∀ k, G k ≠ 0 → pwK k ≠ -12) := by
  intro d
  induction d with
  | zero =>
    intro fu c z A hc hf R RG h1 h2 hfl
    obtain ⟨fu, rfl⟩ : ∃ f, fu = f + 1 := ⟨fu - 1, by omega⟩
    rw [f_X7_derive_41, if_pos (show (1150 : Int32) ≤ nI c from (qI_le (n := 1150) (by omega) (by omega)).mpr (by omega))]
    have : A = G := by
      funext k
      by_cases x : ∃ j, j < c ∧ kc j = k
      · obtain ⟨j, hj, e⟩ := x
        rw [← e]; exact h1 j hj
      · rw [h2 k (fun j hj e => x ⟨j, hj, e⟩)]
        apply Classical.byContradiction
        intro h9
        obtain ⟨j, hj, e⟩ := hvk k (fun h8 => h9 h8.symm)
        exact x ⟨j, by omega, e⟩
    rw [this] at R
    refine ⟨z, rfl, mSame.rfl' z, mRow.rfl' z 8, R, hfl.trans ⟨fun h k hk => ?_, fun h j _ hk => h _ hk⟩⟩
    obtain ⟨j, hj, e⟩ := hvk k hk
    rw [← e] at hk ⊢
    exact h j (by omega) hk
  | succ d ih =>
    intro fu c z A hc hf R RG h1 h2 hfl
    obtain ⟨fu, rfl⟩ : ∃ f, fu = f + 1 := ⟨fu - 1, by omega⟩
    have hc' : c < 1150 := by omega
    have e1 : inb (nI (1150 * a + c)) nUD = true := inU (by omega)
    have e2 : (nI (1150 * a + c)).toNatClampNeg = 1150 * a + c := nI_nat (by omega)
    have e3 : nI (c % 25) - (12 : Int32) = I32 ((c % 25 : Nat) - 12) := by
      rw [← I32_nI]; exact I32_sub _ 12
    rw [f_X7_derive_41, if_neg (show ¬ (1150 : Int32) ≤ nI c from fun h => by have := (qI_le (n := 1150) (by omega) (by omega)).mp h; omega), row_eq, mod25 hc', div25 hc', e3]
    simp only [e1, e2, if_true, Option.bind_some]
    rw [(kindOf_eq ⟨c / 25, by omega⟩).1, (kindOf_eq ⟨c / 25, by omega⟩).2]
    simp only [Option.bind_some]
    rw [(RG c hc').1, (RG c hc').2]
    have hs : s64 (G (kc c)).num := r64_of_abs (hG (kc c)).1 (by omega)
    have hpw : pwK (kc c) = (c % 25 : Nat) - 12 := kc_pw hc'
    have hne : ∀ j, j < c → kc j ≠ kc c := fun j hj e => by have := kc_inj (by omega) hc' e; omega
    have hA0 : A (kc c) = 0 := h2 _ hne
    have hp : prt A G := by
      intro k
      by_cases x : ∃ j, j < c ∧ kc j = k
      · obtain ⟨j, hj, e⟩ := x
        rw [← e]; exact Or.inr (h1 j hj)
      · exact Or.inl (h2 k (fun j hj e => x ⟨j, hj, e⟩))
    have next : ∀ (z' : MdS), rRep z' 8 (dF (upF A (kc c) (G (kc c)))) → mSame z z' → mRow z z' 8 → (gM_isFull z' = 0 ↔ gM_isFull z = 0 ∧ (G (kc c) ≠ 0 → pwK (kc c) ≠ -12)) → ∃ z9, f_X7_derive_246 (fun zM_ x1_ x2_ x3_ => f_X7_derive_41 fu zM_ x1_ x2_ x3_) z' (nI to) (nI a) (nI c) = (f_X7_finish z9 (nI to)).bind (fun r => some (r.1, r.2)) ∧ mSame z z9 ∧ mRow z z9 8 ∧ rRep z9 8 (dF G) ∧ (gM_isFull z9 = 0 ↔ ∀ k, G k ≠ 0 → pwK k ≠ -12) := by
      intro z' r1 r2 r3 r4
      unfold f_X7_derive_246
      rw [nI_add1]
      obtain ⟨z9, p1, p2, p3, p4, p5⟩ := ih fu (c + 1) z' _ (by omega) (by omega) r1 (RG.keep r3 (by omega)) (by
        intro j hj
        by_cases e : j = c
        · subst e; rw [upF_self]
        · rw [upF_ne _ _ (hne j (by omega))]; exact h1 j (by omega)) (by
        intro k hk
        rw [upF_ne _ _ (fun e => hk c (by omega) e.symm)]
        exact h2 k (fun j hj => hk j (by omega))) (by
        rw [r4, hfl]
        constructor
        · intro ⟨x, y⟩ j hj
          by_cases e : j = c
          · subst e; exact y
          · exact x j (by omega)
        · intro x
          exact ⟨fun j hj => x j (by omega), x c (by omega)⟩)
      exact ⟨z9, p1, r2.trans p2, r3.trans p3, p4, p5⟩
    by_cases g0 : G (kc c) = 0
    · rw [if_neg (fun h => h ((num0 _ hs).mpr g0))]
      refine next z ?_ (mSame.rfl' z) (mRow.rfl' z 8) ⟨fun h => ⟨h, fun h9 => absurd g0 h9⟩, fun h => h.1⟩
      have : upF A (kc c) (G (kc c)) = A := by
        funext k
        by_cases e : k = kc c
        · subst e; rw [upF_self, hA0, g0]
        · rw [upF_ne _ _ e]
      rw [this]; exact R
    rw [if_pos (fun h => g0 ((num0 _ hs).mp h))]
    have hvd := kc_vkd hc'
    have hkc : kc c = ky (kdF (c / 25)) (ctF (c / 25)) ((c % 25 : Nat) - 12) := rfl
    rw [hpw] at next
    generalize hkd : kdF (c / 25) = kd at *
    generalize hag : ctF (c / 25) = ag at *
    generalize hpw2 : ((c % 25 : Nat) : Int) - 12 = pw at *
    rw [hkc] at next hA0 g0 ⊢
    obtain ⟨z1, a1, a2, a3, a4, a5⟩ := mder_1 R hp hG hvd hA0 g0
    rw [a1, Option.bind_some]
    have hcs := hvd
    unfold vkd at hcs
    by_cases c1 : kd = 1
    · subst c1
      rw [if_neg (show ¬ ¬ nI 1 = 1 by decide)]
      have hk2 : vk (nkey 1 (ag - 1) (pw - 1)) ∨ gM_isFull z1 ≠ 0 := by
        by_cases x : pw = -12
        · right; intro h; exact (a5.mp h).2 x
        · left
          unfold nkey
          by_cases y : ag - 1 = 0
          · rw [if_pos y, vk_iff (by unfold okA; omega)]; unfold vkd; omega
          · rw [if_neg y, if_neg (by omega), vk_iff (by unfold okA; omega)]; unfold vkd; omega
      obtain ⟨z2, b1, b2, b3, b4, b5⟩ := mder_2 a2 hp hG hvd hA0 (by omega) 1 (ag - 1) (pw - 1) ag (by omega) (dt2_log _) (by rw [if_pos rfl]) (by unfold okT; omega) (by omega) hk2
      have e1 : I32 pw - 1 = I32 (pw - 1) := I32_sub pw 1
      have e2 : I32 ag - 1 = I32 (ag - 1) := I32_sub ag 1
      rw [e1, e2, toInt64_I (by omega) (by omega), I64_mul, show (f_X7_addTerm z1 8 1 (I32 (ag - 1)) (I32 (pw - 1)) (I64 ((G (ky 1 ag pw)).num * ag)) (I64 ((G (ky 1 ag pw)).den : Int))) = some z2 from b1, Option.bind_some]
      exact next z2 b2 (a3.trans b3) (a4.trans b4) (b5.trans (a5.trans ⟨fun h => ⟨h.1, fun _ => h.2⟩, fun h => ⟨h.1, h.2 g0⟩⟩))
    · rw [if_pos (show ¬ nI kd = 1 from fun h => c1 ((nI_inj (m := 1) (by omega) (by omega)).mp h))]
      by_cases c2 : kd = 2
      · subst c2
        rw [if_neg (show ¬ ¬ nI 2 = 2 by decide)]
        obtain ⟨z2, b1, b2, b3, b4, b5⟩ := mder_2 a2 hp hG hvd hA0 (by omega) 2 ag pw ag (by omega) (dt2_exp _) (by rw [if_neg (by omega)]; rfl) (by unfold okT; omega) (by omega) (Or.inl (by
          unfold nkey; rw [if_neg (by omega), if_neg (by omega), vk_iff (by unfold okA; omega)]; unfold vkd; omega))
        rw [toInt64_I (by omega) (by omega), I64_mul, show (f_X7_addTerm z1 8 2 (I32 ag) (I32 pw) (I64 ((G (ky 2 ag pw)).num * ag)) (I64 ((G (ky 2 ag pw)).den : Int))) = some z2 from b1, Option.bind_some]
        exact next z2 b2 (a3.trans b3) (a4.trans b4) (b5.trans (a5.trans ⟨fun h => ⟨h.1, fun _ => h.2⟩, fun h => ⟨h.1, h.2 g0⟩⟩))
      · rw [if_pos (show ¬ nI kd = 2 from fun h => c2 ((nI_inj (m := 2) (by omega) (by omega)).mp h))]
        by_cases c0 : kd = 0
        · subst c0
          rw [if_pos (show nI 0 ≤ 2 by decide)]
          have hd0 : addF (dF A) (dt1 0 ag pw (G (ky 0 ag pw))) = dF (upF A (ky 0 ag pw) (G (ky 0 ag pw))) := by
            have : dt2 0 ag pw (G (ky 0 ag pw)) = fun _ => 0 := rfl
            have h9 := dF_sg hvd (G (ky 0 ag pw))
            rw [this, addF_0] at h9
            rw [← h9, ← dF_add, addF_sg, hA0, Rat.zero_add]
          rw [hd0] at a2
          exact next z1 a2 a3 a4 (a5.trans ⟨fun h => ⟨h.1, fun _ => h.2⟩, fun h => ⟨h.1, h.2 g0⟩⟩)
        · rw [if_neg (show ¬ nI kd ≤ 2 from fun h => by have := (qI_le (m := 2) (by omega) (by omega)).mp h; omega)]
          unfold f_X7_derive_215 f_X7_derive_241
          have hc : kd = 3 ∨ kd = 4 := by omega
          rcases hc with rfl | rfl
          · rw [if_neg (show ¬ ¬ nI 3 = 3 by decide), if_neg (show ¬ ¬ nI 3 = 3 by decide)]
            obtain ⟨z2, b1, b2, b3, b4, b5⟩ := mder_2 a2 hp hG hvd hA0 (by omega) 4 ag pw ag (by omega) (dt2_sin _) (by rw [if_neg (by omega)]; rfl) (by unfold okT; omega) (by omega) (Or.inl (by
              unfold nkey; rw [if_neg (by omega), if_neg (by omega), vk_iff (by unfold okA; omega)]; unfold vkd; omega))
            rw [toInt64_I (by omega) (by omega), I64_mul, show (f_X7_addTerm z1 8 4 (I32 ag) (I32 pw) (I64 ((G (ky 3 ag pw)).num * ag)) (I64 ((G (ky 3 ag pw)).den : Int))) = some z2 from b1, Option.bind_some]
            exact next z2 b2 (a3.trans b3) (a4.trans b4) (b5.trans (a5.trans ⟨fun h => ⟨h.1, fun _ => h.2⟩, fun h => ⟨h.1, h.2 g0⟩⟩))
          · rw [if_pos (show ¬ nI 4 = 3 by decide), if_pos (show ¬ nI 4 = 3 by decide)]
            obtain ⟨z2, b1, b2, b3, b4, b5⟩ := mder_2 a2 hp hG hvd hA0 (by omega) 3 ag pw (-ag) (by omega) (dt2_cos _) (by rw [if_neg (by omega)]; rfl) (by unfold okT; omega) (by omega) (Or.inl (by
              unfold nkey; rw [if_neg (by omega), if_neg (by omega), vk_iff (by unfold okA; omega)]; unfold vkd; omega))
            have e5 : -(G (ky 4 ag pw)).num * ag = (G (ky 4 ag pw)).num * -ag := by rw [Int.mul_neg, Int.neg_mul]
            rw [toInt64_I (by omega) (by omega), I64_neg, I64_mul, e5, show (f_X7_addTerm z1 8 3 (I32 ag) (I32 pw) (I64 ((G (ky 4 ag pw)).num * -ag)) (I64 ((G (ky 4 ag pw)).den : Int))) = some z2 from b1, Option.bind_some]
            exact next z2 b2 (a3.trans b3) (a4.trans b4) (b5.trans (a5.trans ⟨fun h => ⟨h.1, fun _ => h.2⟩, fun h => ⟨h.1, h.2 g0⟩⟩))
set_option maxHeartbeats 1000000 in
set_option maxRecDepth 100000 in
theorem b13_add {v w : Rat} (hv : b13 v) (hw : b13 w) : s64 (v + w).num ∧ (v + w).den < 9223372036854775808 := by
  have e : v + w = v + Rat.divInt w.num w.den := by rw [Rat.num_divInt_den]
  have hd : (w.den : Int) ≠ 0 := by have := w.den_nz; omega
  have hd2 : (v.den : Int) ≠ 0 := by have := v.den_nz; omega
  rw [e, rat_add_divInt _ _ _ hd]
  have h := bd_13 hv (p := w.num) (q := (w.den : Int)) hw.1 (by have := hw.2; omega)
  have l1 := num_le (v.num * w.den + w.num * v.den) (v.den * w.den)
  have l2 : (Rat.divInt (v.num * w.den + w.num * v.den) (v.den * w.den)).den ≤ _ := den_le (Int.mul_ne_zero hd2 hd)
  exact ⟨r64_of_abs (Nat.le_trans l1 (Nat.le_refl _)) h.1.abs, by omega⟩
set_option maxHeartbeats 1000000 in
set_option maxRecDepth 100000 in
theorem dF_okF {G : Nat → Rat} (hG : bF G) : okF (dF G) := by
  intro k
  unfold dF
  by_cases c : okk k
  · rw [if_pos c]; exact b13_add (b13_mul (hG _) (cf_le c).1) (b13_mul (hG _) (cf_le c).2)
  · rw [if_neg c]; unfold s64; decide
set_option maxHeartbeats 1000000 in
set_option maxRecDepth 100000 in
theorem dF_wfk {G : Nat → Rat} {k : Nat} (h : dF G k ≠ 0) : okk k := by
  apply Classical.byContradiction
  intro c
  unfold dF at h
  rw [if_neg c] at h
  exact h rfl
def lgK (n : Nat) : Nat := if n = 0 then ky 0 0 (-12) else ky 1 n (-12)
set_option maxHeartbeats 1000000 in
set_option maxRecDepth 100000 in
theorem max_log (P : Nat → Prop) (n : Nat) (hn : n ≤ 9) (hP : P n) : ∃ N, N ≤ 9 ∧ P N ∧ ∀ m, N < m → m ≤ 9 → ¬ P m := by
  obtain ⟨d, hd⟩ : ∃ d, n + d = 9 := ⟨9 - n, by omega⟩
  induction d generalizing n with
  | zero => exact ⟨n, hn, hP, fun m h1 h2 => by omega⟩
  | succ d ih =>
    by_cases c : ∃ m, n < m ∧ m ≤ 9 ∧ P m
    · obtain ⟨m, h1, h2, h3⟩ := c
      by_cases e : P (n + 1)
      · exact ih (n + 1) (by omega) e (by omega)
      ·
        have : ∀ (q : Nat), q ≤ 9 → (∃ m, 9 - q ≤ m ∧ m ≤ 9 ∧ P m) → ∃ N, N ≤ 9 ∧ P N ∧ ∀ m, N < m → m ≤ 9 → ¬ P m := by
          intro q
          induction q with
          | zero =>
            intro _ ⟨m, a, b, c⟩
            exact ⟨m, b, c, fun l h1 h2 => by omega⟩
          | succ q ihq =>
            intro hq ⟨m, a, b, c⟩
            by_cases x : ∃ m, 9 - q ≤ m ∧ m ≤ 9 ∧ P m
            · exact ihq (by omega) x
            · exact ⟨m, b, c, fun l h1 h2 h3 => x ⟨l, by omega, h2, h3⟩⟩
        exact this 9 (by omega) ⟨m, by omega, h2, h3⟩
    · exact ⟨n, hn, hP, fun m h1 h2 h3 => c ⟨m, h1, h2, h3⟩⟩
set_option maxHeartbeats 1000000 in
set_option maxRecDepth 100000 in
theorem dF_full {G : Nat → Rat} (hvk : ∀ k, G k ≠ 0 → vk k) : (∀ k, G k ≠ 0 → pwK k ≠ -12) ↔ ∀ k, dF G k ≠ 0 → vk k := by
  constructor
  · intro h k hk
    have ho := dF_wfk hk
    have ho' := ho
    obtain ⟨a1, a2, a3, a4⟩ := ho
    have hd := okA_k k
    apply vk_wfk.mpr
    refine ⟨a4, ?_, by omega⟩
    have : pwK k ≠ -13 := by
      intro e
      apply hk
      unfold dF
      rw [if_pos ho']
      have z1 : G (s1K k) = 0 := by
        apply Classical.byContradiction
        intro h9
        apply h _ h9
        unfold s1K; rw [pwK_ky (by unfold okA; omega), e]; rfl
      have z2 : G (s2K k) = 0 := by
        apply Classical.byContradiction
        intro h9
        have hv := hvk _ h9
        have hv2 := vk_wfk.mp hv
        have hpw := h _ h9
        unfold s2K at hpw hv2
        split at hpw
        · rw [pwK_ky (by unfold okA; omega), e] at hpw; exact hpw rfl
        · rename_i c1
          rw [if_neg c1] at hv2
          split at hv2
          · omega
          · split at hv2
            · rw [pwK_ky (by unfold okA; omega)] at hv2; omega
            · rw [pwK_ky (by unfold okA; omega)] at hv2; omega
      rw [z1, z2, Rat.zero_mul, Rat.zero_mul, Rat.add_zero]
    omega
  · intro h k hk e
    have hv := (vk_dec (hvk k hk)).1
    have hdec := ky_dec k
    unfold vkd at hv
    have bad : ∀ k', okk k' → pwK k' = -13 → G (s1K k') ≠ 0 → G (s2K k') = 0 → False := by
      intro k' o p g1 g2
      have : dF G k' ≠ 0 := by
        unfold dF
        rw [if_pos o, g2, Rat.zero_mul, Rat.add_zero, p]
        exact mul_int_ne g1 (by omega)
      have := vk_wfk.mp (h k' this)
      omega
    by_cases c : kdK k ≤ 1
    · have hlg : ∃ n, n ≤ 9 ∧ G (lgK n) ≠ 0 := by
        refine ⟨(agK k).toNat, by omega, ?_⟩
        have : lgK (agK k).toNat = k := by
          unfold lgK
          by_cases x : (agK k).toNat = 0
          · rw [if_pos x, ← hdec, e]
            have y1 : kdK k = 0 := by omega
            have y2 : agK k = 0 := by omega
            rw [y1, y2]
          · rw [if_neg x]
            rw [← hdec, e]
            have y1 : kdK k = 1 := by omega
            rw [y1]; congr 1
            rw [agK_ky (by unfold okA; omega)]; omega
        rw [this]; exact hk
      obtain ⟨n, hn, hP⟩ := hlg
      obtain ⟨N, hN, hPN, hmax⟩ := max_log (fun n => G (lgK n) ≠ 0) n hn hP
      have hnext : G (ky 1 ((N : Int) + 1) (-12)) = 0 := by
        apply Classical.byContradiction
        intro h9
        by_cases x : N + 1 ≤ 9
        · apply hmax (N + 1) (by omega) x
          unfold lgK; rw [if_neg (by omega)]; exact h9
        · have := hvk _ h9
          rw [vk_iff (by unfold okA; omega)] at this
          unfold vkd at this; omega
      by_cases x : N = 0
      · subst x
        have o' : okA 0 (-13) := by unfold okA; omega
        refine bad (ky 0 0 (-13)) ?_ (pwK_ky o') ?_ ?_
        · unfold okk wfk; rw [kdK_ky o', agK_ky o', pwK_ky o']; omega
        · unfold s1K; rw [kdK_ky o', agK_ky o', pwK_ky o']; exact hPN
        · unfold s2K; rw [kdK_ky o', agK_ky o', pwK_ky o', if_pos (by omega)]; exact hnext
      · have o' : okA (N : Int) (-13) := by unfold okA; omega
        refine bad (ky 1 N (-13)) ?_ (pwK_ky o') ?_ ?_
        · unfold okk wfk; rw [kdK_ky o', agK_ky o', pwK_ky o']; omega
        · unfold s1K; rw [kdK_ky o', agK_ky o', pwK_ky o']
          unfold lgK at hPN; rw [if_neg x] at hPN; exact hPN
        · unfold s2K; rw [kdK_ky o', agK_ky o', pwK_ky o', if_pos (by omega)]; exact hnext
    · have o' : okA (agK k) (-13) := by unfold okA; omega
      have inv : ∀ kd', G (ky kd' (agK k) (-13)) = 0 := by
        intro kd'
        apply Classical.byContradiction
        intro h9
        have := hvk _ h9
        rw [vk_iff o'] at this
        unfold vkd at this; omega
      refine bad (ky (kdK k) (agK k) (-13)) ?_ (pwK_ky o') ?_ ?_
      · unfold okk wfk; rw [kdK_ky o', agK_ky o', pwK_ky o']; omega
      · unfold s1K; rw [kdK_ky o', agK_ky o', pwK_ky o']
        have : (-13 : Int) + 1 = pwK k := by omega
        rw [this, hdec]; exact hk
      · unfold s2K; rw [kdK_ky o', agK_ky o', pwK_ky o', if_neg c]
        split
        · exact inv _
        · split
          · exact inv _
          · exact inv _
set_option maxHeartbeats 1000000 in
set_option maxRecDepth 100000 in
theorem derive_both {zD : DeskS} {zM : MdS} (h : Sim zD zM) (a1 a2 : Int32) : opR (f_X6_derive zD a1 a2) (f_X7_derive zM a1 a2) True False 0 := by
  obtain ⟨r1, e1, e2, e3, e4⟩ := isSlot6_eq a1
  obtain ⟨r2, f1, f2, f3, f4⟩ := isSlot6_eq a2
  have no : opR (some ((1 : Int32), (0 : Int32), zD)) (f_X7_derive_19 zM a1 a2) True False 0 :=
    ⟨1, 0, zD, 0, uM_refusal zM 1, rfl, rfl, h.refusal 1, Or.inr (Or.inl ⟨rfl, rfl, trivial⟩)⟩
  unfold f_X6_derive f_X7_derive
  rw [e1, e2, f1, f2]
  simp only [Option.bind_some]
  rcases e3 with rfl | rfl
  · rw [if_pos rfl, if_pos rfl]; exact no
  rw [if_neg (show ¬ (1 : Int32) = 0 by decide), if_neg (show ¬ (1 : Int32) = 0 by decide)]
  rcases f3 with rfl | rfl
  · rw [if_neg (by simp), if_pos rfl]; exact no
  rw [if_pos (show ¬ (1 : Int32) = 0 by decide), if_neg (show ¬ (1 : Int32) = 0 by decide)]
  obtain ⟨to, hto, rfl⟩ := e4.mp rfl
  obtain ⟨a, ha, rfl⟩ := f4.mp rfl
  obtain ⟨na, Ka, G, Ra, Ma, oa, hna, hva⟩ := h.1 a ha
  have hG := bF_of hva
  have hvk : ∀ k, G k ≠ 0 → vk k := fun k hk => (hva k hk).1
  unfold f_X7_derive_20
  rw [refused0, Option.bind_some, if_pos rfl]
  obtain ⟨w0, c1, c2, c3⟩ := sRep_clear (gD_work zD) 200
  rw [c1, Option.bind_some, if_pos ((inb_nI (by omega)).mpr ha), nI_nat (show a < 2147483648 by omega)]
  rw [← dF_0] at c2
  obtain ⟨w1, n1, K1, d1, d2, d3, d4⟩ := derive_loop Ra hna hG hvk na fuel 0 0 w0 _ (fun _ => 0) (by omega) (by rw [fuel_eq]; omega) c2 (by omega) (fun j hj => by omega) (fun k _ => rfl)
  have d1' : f_X0_putDerivative 200 40 (gD_slots (uD_work zD w0) a) (gD_work (uD_work zD w0)) = some w1 := d1
  rw [d1', Option.bind_some]
  obtain ⟨z0, g1, g2, g3, g4, g5, -, -⟩ := empty_eq (uM_isFull (uM_refusal zM 0) 0) 8 (by omega)
  have g1' : f_X7_empty (uM_isFull (uM_refusal zM 0) 0) 8 = some z0 := g1
  rw [g1', Option.bind_some]
  rw [← dF_0] at g2
  have Ma0 : rRep (uM_isFull (uM_refusal zM 0) 0) a G := Ma
  obtain ⟨z1, m1, m2, m3, m4, m5⟩ := mderive_loop hG hvk to a ha 1150 fuel 0 z0 (fun _ => 0) (by omega) (by rw [fuel_eq]; omega) g2 (Ma0.keep g4 (by omega)) (fun j hj => by omega) (fun k _ => rfl) ⟨fun _ j hj => by omega, fun _ => g5⟩
  have m1' : f_X7_derive_41 fuel z0 (nI to) (nI a) 0 = _ := m1
  rw [m1']
  have hsl : ∀ s, s < 8 → slR (gD_slots zD s) z1 s := by
    intro s hs
    have s0 : slR (gD_slots zD s) (uM_isFull (uM_refusal zM 0) 0) s := h.1 s hs
    exact (s0.keep g4 (by omega)).keep m3 (by omega)
  obtain ⟨ans, zD', zM', s1, s2, s3, s4, s5⟩ := settle_both (zD := uD_work (uD_work zD w0) w1) (zM := z1) (to := to) (F := dF G) hto hsl d2 (by omega) (by show gS_ov w1 = 0; rw [d3, c3]) m4 (dF_okF hG) (fun k hk => (dF_wfk hk).2.2.2) (m5.trans (dF_full hvk))
  rw [s1, s2, Option.bind_some, Option.bind_some]
  have hms : mSame (uM_refusal zM 0) zM' := ((show mSame (uM_refusal zM 0) (uM_isFull (uM_refusal zM 0) 0) from ⟨rfl, rfl, rfl, rfl, rfl, rfl, rfl, rfl⟩).trans g3).trans (m2.trans s5)
  have hds : dSame zD zD' := s4
  exact ⟨0, ans, zD', ans, zM', rfl, rfl, (h.refusal 0).keep hds hms s3, Or.inl ⟨rfl, hms.1, rfl⟩⟩
