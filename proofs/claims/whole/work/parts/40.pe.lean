def sumL (l : List Nat) (f : Nat → Nat → Rat) : Nat → Rat := l.foldr (fun x acc => addF (f x) acc) (fun _ => 0)
set_option maxHeartbeats 1000000 in
set_option maxRecDepth 100000 in
theorem sumL_nil (f : Nat → Nat → Rat) : sumL [] f = fun _ => 0 := rfl
set_option maxHeartbeats 1000000 in
set_option maxRecDepth 100000 in
theorem sumL_cons (x : Nat) (l : List Nat) (f : Nat → Nat → Rat) : sumL (x :: l) f = addF (f x) (sumL l f) := rfl
set_option maxHeartbeats 1000000 in
set_option maxRecDepth 100000 in
theorem sumL_append (l l' : List Nat) (f : Nat → Nat → Rat) : sumL (l ++ l') f = addF (sumL l f) (sumL l' f) := by
  induction l with
  | nil => rw [List.nil_append, sumL_nil, addF_0l]
  | cons x l ih => rw [List.cons_append, sumL_cons, sumL_cons, ih, addF_assoc]
set_option maxHeartbeats 1000000 in
set_option maxRecDepth 100000 in
theorem sumL_perm {l l' : List Nat} (h : l.Perm l') (f : Nat → Nat → Rat) : sumL l f = sumL l' f := by
  induction h with
  | nil => rfl
  | cons x _ ih => rw [sumL_cons, sumL_cons, ih]
  | swap x y l => rw [sumL_cons, sumL_cons, sumL_cons, sumL_cons, ← addF_assoc, ← addF_assoc, addF_comm (f y) (f x)]
  | trans _ _ ih1 ih2 => exact ih1.trans ih2
set_option maxHeartbeats 1000000 in
set_option maxRecDepth 100000 in
theorem sumL_filter (l : List Nat) (p : Nat → Bool) (f : Nat → Nat → Rat) (h : ∀ x, x ∈ l → p x = false → f x = fun _ => 0) : sumL (l.filter p) f = sumL l f := by
  induction l with
  | nil => rfl
  | cons x l ih =>
    have ih' := ih (fun y hy => h y (List.mem_cons_of_mem _ hy))
    by_cases c : p x = true
    · rw [List.filter_cons_of_pos c, sumL_cons, sumL_cons, ih']
    · rw [List.filter_cons_of_neg c, sumL_cons, ih', h x List.mem_cons_self (by simpa using c), addF_0l]
set_option maxHeartbeats 1000000 in
set_option maxRecDepth 100000 in
theorem sumL_congr (l : List Nat) (f g : Nat → Nat → Rat) (h : ∀ x, x ∈ l → f x = g x) : sumL l f = sumL l g := by
  induction l with
  | nil => rfl
  | cons x l ih => rw [sumL_cons, sumL_cons, h x List.mem_cons_self, ih (fun y hy => h y (List.mem_cons_of_mem _ hy))]
def pre (K : Nat → Nat) (i : Nat) : List Nat := (List.range i).map K
set_option maxHeartbeats 1000000 in
set_option maxRecDepth 100000 in
theorem sumL_pre_succ (K : Nat → Nat) (i : Nat) (f : Nat → Nat → Rat) : sumL (pre K (i + 1)) f = addF (sumL (pre K i) f) (f (K i)) := by
  unfold pre
  rw [List.range_succ, List.map_append, sumL_append]
  show addF _ (addF (f (K i)) (fun _ => 0)) = _
  rw [addF_0]
set_option maxHeartbeats 1000000 in
set_option maxRecDepth 100000 in
theorem sumL_pre_0 (K : Nat → Nat) (f : Nat → Nat → Rat) : sumL (pre K 0) f = fun _ => 0 := rfl
set_option maxHeartbeats 1000000 in
set_option maxRecDepth 100000 in
theorem supp_perm {z : SumS} {n : Nat} {K : Nat → Nat} {F : Nat → Rat} (R : sRep z n K F) (hv : ∀ k, F k ≠ 0 → vk k) : ((pre kc 1150).filter (fun k => decide (F k ≠ 0))).Perm (pre K n) := by
  unfold pre
  rw [List.perm_ext_iff_of_nodup]
  · intro k
    simp only [List.mem_filter, List.mem_range, List.mem_map, decide_eq_true_eq]
    constructor
    · intro ⟨⟨c, hc, e⟩, h2⟩
      obtain ⟨i, hi, e'⟩ := R.2.2.2.2.2.2 _ h2
      exact ⟨i, hi, e'⟩
    · intro ⟨i, hi, e⟩
      have hk := (R.2.2.2.2.2.1 i hi).1
      rw [e] at hk
      obtain ⟨c, hc, e'⟩ := hv _ hk
      exact ⟨⟨c, hc, e'⟩, hk⟩
  · refine List.nodup_iff_pairwise_ne.mpr (List.Pairwise.filter _ ?_)
    rw [List.pairwise_map]
    refine List.Pairwise.imp_of_mem ?_ (List.nodup_iff_pairwise_ne.mp List.nodup_range)
    intro i j hi hj hne e
    exact hne (kc_inj (List.mem_range.mp hi) (List.mem_range.mp hj) e)
  · rw [List.nodup_iff_pairwise_ne, List.pairwise_map]
    refine List.Pairwise.imp_of_mem ?_ (List.nodup_iff_pairwise_ne.mp List.nodup_range)
    intro i j hi hj hne e
    exact hne (R.inj (List.mem_range.mp hi) (List.mem_range.mp hj) e)
set_option maxHeartbeats 1000000 in
set_option maxRecDepth 100000 in
theorem sumL_cells {z : SumS} {n : Nat} {K : Nat → Nat} {F : Nat → Rat} (R : sRep z n K F) (hv : ∀ k, F k ≠ 0 → vk k) (f : Nat → Nat → Rat) (h0 : ∀ k, F k = 0 → f k = fun _ => 0) : sumL (pre K n) f = sumL (pre kc 1150) f := by
  rw [← sumL_perm (supp_perm R hv) f]
  refine sumL_filter _ _ _ (fun x _ hx => h0 x ?_)
  simpa using hx
def scl (D : Int) (M : Nat) (F : Nat → Rat) : Prop := ∀ k, ∃ x : Int, F k = Rat.divInt x D ∧ x.natAbs ≤ M
set_option maxHeartbeats 1000000 in
set_option maxRecDepth 100000 in
theorem scl_0 (D : Int) : scl D 0 (fun _ => 0) := fun k => ⟨0, (Rat.zero_divInt D).symm, Nat.le_refl 0⟩
set_option maxHeartbeats 1000000 in
set_option maxRecDepth 100000 in
theorem scl_mono {D : Int} {M M' : Nat} {F : Nat → Rat} (h : scl D M F) (hM : M ≤ M') : scl D M' F := fun k => by
  obtain ⟨x, e, l⟩ := h k
  exact ⟨x, e, Nat.le_trans l hM⟩
set_option maxHeartbeats 1000000 in
set_option maxRecDepth 100000 in
theorem scl_add {D : Int} (hD : D ≠ 0) {M M' : Nat} {F G : Nat → Rat} (h : scl D M F) (h' : scl D M' G) : scl D (M + M') (addF F G) := by
  intro k
  obtain ⟨x, e, l⟩ := h k
  obtain ⟨y, e', l'⟩ := h' k
  refine ⟨x + y, ?_, by omega⟩
  show F k + G k = _
  rw [e, e', Rat.divInt_add_divInt _ _ hD hD]
  have : x * D + y * D = (x + y) * D := by rw [Int.add_mul]
  rw [this, Rat.divInt_mul_right hD]
set_option maxHeartbeats 1000000 in
set_option maxRecDepth 100000 in
theorem scl_dl {D : Int} {x : Int} (kd : Nat) (ag pw : Int) : scl D x.natAbs (dl kd ag pw (Rat.divInt x D)) := by
  intro k
  unfold dl sg
  by_cases c : k = nkey kd ag pw
  · rw [if_pos c]
    unfold nval
    split
    · split
      · exact ⟨0, (Rat.zero_divInt D).symm, by omega⟩
      · exact ⟨x, rfl, Nat.le_refl _⟩
    · split
      · exact ⟨-x, Rat.neg_divInt x D, by omega⟩
      · exact ⟨x, rfl, Nat.le_refl _⟩
  · rw [if_neg c]; exact ⟨0, (Rat.zero_divInt D).symm, by omega⟩
set_option maxHeartbeats 1000000 in
set_option maxRecDepth 100000 in
theorem scl_bd {D : Int} (hD : D ≠ 0) {M : Nat} {F : Nat → Rat} (h : scl D M F) (k : Nat) : (F k).num.natAbs ≤ M ∧ (F k).den ≤ D.natAbs := by
  obtain ⟨x, e, l⟩ := h k
  rw [e]
  exact ⟨Nat.le_trans (num_le x D) l, den_le hD⟩
set_option maxHeartbeats 1000000 in
set_option maxRecDepth 100000 in
theorem scl_okF {D : Int} (hD : D ≠ 0) {M : Nat} {F : Nat → Rat} (h : scl D M F) (hM : M < 9223372036854775808) (hDD : D.natAbs < 9223372036854775808) : okF F := by
  intro k
  have := scl_bd hD h k
  exact ⟨r64_of_abs this.1 hM, by omega⟩
set_option maxHeartbeats 1000000 in
set_option maxRecDepth 100000 in
theorem scl_bdK {D : Int} (hD : D ≠ 0) {M : Nat} {F : Nat → Rat} (h : scl D M F) (k : Nat) {p q : Int} {P Q : Nat} (hp : p.natAbs ≤ P) (hq : q.natAbs ≤ Q) (h1 : M * Q + P * D.natAbs < 9223372036854775808) (h2 : D.natAbs * Q < 281474976710656) : bdK F k p q := by
  obtain ⟨b1, b2⟩ := scl_bd hD h k
  have g1 := absmul b1 hq
  have g2 : (p * ((F k).den : Int)).natAbs ≤ P * D.natAbs := absmul hp (by omega)
  have g3 : (((F k).den : Int) * q).natAbs ≤ D.natAbs * Q := absmul (by omega) hq
  unfold bdK s64
  rw [Int.neg_mul]
  omega
set_option maxHeartbeats 1000000 in
set_option maxRecDepth 100000 in
theorem dl_0 (kd : Nat) (ag pw : Int) : dl kd ag pw 0 = fun _ => 0 := by
  have : nval kd ag 0 = 0 := by
    unfold nval
    split
    · split <;> rfl
    · split <;> rfl
  unfold dl; rw [this]
  funext j; unfold sg; split <;> rfl
def hlf : Rat := Rat.divInt 1 2
abbrev wav (kd : Nat) : Prop := kd = 3 ∨ kd = 4
def mulC (k1 : Nat) (v1 : Rat) (k2 : Nat) (v2 : Rat) : Nat → Rat :=
  if wav (kdK k1) ∧ wav (kdK k2) then
    addF (dl (if kdK k1 = kdK k2 then 4 else 3) (agK k1 + agK k2) (pwK k1 + pwK k2) (if kdK k1 = 3 ∧ kdK k2 = 3 then -(v1 * v2 * hlf) else v1 * v2 * hlf))
      (dl (if kdK k1 = kdK k2 then 4 else 3) (agK k1 - agK k2) (pwK k1 + pwK k2) (if kdK k1 = 4 ∧ kdK k2 = 3 then -(v1 * v2 * hlf) else v1 * v2 * hlf))
  else dl (max (kdK k1) (kdK k2)) (agK k1 + agK k2) (pwK k1 + pwK k2) (v1 * v2)
set_option maxHeartbeats 1000000 in
set_option maxRecDepth 100000 in
theorem mulC_0l (k1 k2 : Nat) (v2 : Rat) : mulC k1 0 k2 v2 = fun _ => 0 := by
  unfold mulC
  have h1 : (0 : Rat) * v2 * hlf = 0 := by rw [Rat.zero_mul, Rat.zero_mul]
  have h2 : -(0 : Rat) = 0 := rfl
  rw [h1, h2, Rat.zero_mul]
  split
  · simp only [ite_self]; rw [dl_0, dl_0, addF_0]
  · rw [dl_0]
set_option maxHeartbeats 1000000 in
set_option maxRecDepth 100000 in
theorem mulC_0r (k1 k2 : Nat) (v1 : Rat) : mulC k1 v1 k2 0 = fun _ => 0 := by
  unfold mulC
  have h1 : v1 * (0 : Rat) * hlf = 0 := by rw [Rat.mul_zero, Rat.zero_mul]
  have h2 : -(0 : Rat) = 0 := rfl
  rw [h1, h2, Rat.mul_zero]
  split
  · simp only [ite_self]; rw [dl_0, dl_0, addF_0]
  · rw [dl_0]
def smV (v : Rat) : Prop := v.num.natAbs ≤ 100 ∧ v.den ≤ 6
set_option maxHeartbeats 1000000 in
set_option maxRecDepth 100000 in
theorem den60 {v : Rat} (h : smV v) : ∃ y : Int, (v.den : Int) * y = 60 ∧ y.natAbs ≤ 60 ∧ y ≠ 0 := by
  have h0 := v.den_nz
  have : v.den = 1 ∨ v.den = 2 ∨ v.den = 3 ∨ v.den = 4 ∨ v.den = 5 ∨ v.den = 6 := by have := h.2; omega
  rcases this with e | e | e | e | e | e <;> rw [e]
  · exact ⟨60, by decide⟩
  · exact ⟨30, by decide⟩
  · exact ⟨20, by decide⟩
  · exact ⟨15, by decide⟩
  · exact ⟨12, by decide⟩
  · exact ⟨10, by decide⟩
set_option maxHeartbeats 1000000 in
set_option maxRecDepth 100000 in
theorem mul_scl {v w : Rat} (hv : smV v) (hw : smV w) : ∃ x : Int, v * w = Rat.divInt x 7200 ∧ x.natAbs ≤ 72000000 ∧ v * w = Rat.divInt (v.num * w.num) (v.den * w.den) ∧ (v.num * w.num).natAbs ≤ 10000 ∧ ((v.den : Int) * w.den).natAbs ≤ 36 ∧ 0 < (v.den : Int) * w.den := by
  obtain ⟨y, e1, l1, n1⟩ := den60 hv
  obtain ⟨y', e2, l2, n2⟩ := den60 hw
  have hd : (v.den : Int) ≠ 0 := by have := v.den_nz; omega
  have hd' : (w.den : Int) ≠ 0 := by have := w.den_nz; omega
  have e : v * w = Rat.divInt (v.num * w.num) (v.den * w.den) := by
    conv => lhs; rw [← Rat.num_divInt_den v, ← Rat.num_divInt_den w]
    exact Rat.divInt_mul_divInt _ _
  have b1 := absmul hv.1 hw.1
  have b2 : ((v.den : Int) * w.den).natAbs ≤ 6 * 6 := absmul (by have := hv.2; omega) (by have := hw.2; omega)
  have b3 : (y * y').natAbs ≤ 60 * 60 := absmul l1 l2
  refine ⟨v.num * w.num * (2 * (y * y')), ?_, ?_, e, b1, b2, Int.mul_pos (by omega) (by omega)⟩
  · have hy : (2 * (y * y')) ≠ 0 := Int.mul_ne_zero (by omega) (Int.mul_ne_zero n1 n2)
    have : (v.den : Int) * w.den * (2 * (y * y')) = 7200 := by
      have : (v.den : Int) * w.den * (2 * (y * y')) = 2 * ((v.den : Int) * y) * ((w.den : Int) * y') := by grind
      rw [this, e1, e2]; decide
    rw [e, ← this, Rat.divInt_mul_right hy]
  · have b4 : (2 * (y * y')).natAbs ≤ 2 * (60 * 60) := absmul (by omega) b3
    have := absmul b1 b4; omega
set_option maxHeartbeats 1000000 in
set_option maxRecDepth 100000 in
theorem mulh_scl {v w : Rat} (hv : smV v) (hw : smV w) : ∃ x : Int, v * w * hlf = Rat.divInt x 7200 ∧ x.natAbs ≤ 72000000 ∧ v * w * hlf = Rat.divInt (v.num * w.num) (2 * (v.den * w.den)) ∧ 0 < 2 * ((v.den : Int) * w.den) ∧ (2 * ((v.den : Int) * w.den)).natAbs ≤ 72 := by
  obtain ⟨y, e1, l1, n1⟩ := den60 hv
  obtain ⟨y', e2, l2, n2⟩ := den60 hw
  obtain ⟨-, -, -, e, b1, b2, b5⟩ := mul_scl hv hw
  have b3 : (y * y').natAbs ≤ 60 * 60 := absmul l1 l2
  have eh : v * w * hlf = Rat.divInt (v.num * w.num) (2 * (v.den * w.den)) := by
    unfold hlf
    rw [e, Rat.divInt_mul_divInt, Int.mul_one, Int.mul_comm 2]
  refine ⟨v.num * w.num * (y * y'), ?_, ?_, eh, by omega, by omega⟩
  · have hy : y * y' ≠ 0 := Int.mul_ne_zero n1 n2
    have : 2 * ((v.den : Int) * w.den) * (y * y') = 7200 := by
      have : 2 * ((v.den : Int) * w.den) * (y * y') = 2 * ((v.den : Int) * y) * ((w.den : Int) * y') := by grind
      rw [this, e1, e2]; decide
    rw [eh, ← this, Rat.divInt_mul_right hy]
  · have := absmul b1 b3; omega
def supV (F : Nat → Rat) : Prop := ∀ k, F k ≠ 0 → vk k
set_option maxHeartbeats 1000000 in
set_option maxRecDepth 100000 in
theorem supV_0 : supV (fun _ => 0) := fun k h => absurd rfl h
set_option maxHeartbeats 1000000 in
set_option maxRecDepth 100000 in
theorem supV_add {F G : Nat → Rat} (h : supV F) (h' : supV G) : supV (addF F G) := by
  intro k hk
  by_cases c : F k = 0
  · by_cases d : G k = 0
    · exfalso; apply hk; show F k + G k = 0; rw [c, d, Rat.add_zero]
    · exact h' k d
  · exact h k c
set_option maxHeartbeats 1000000 in
set_option maxRecDepth 100000 in
theorem supV_dl {kd : Nat} {ag pw : Int} {v : Rat} (h : vk (nkey kd ag pw)) : supV (dl kd ag pw v) := by
  intro k hk
  unfold dl sg at hk
  by_cases c : k = nkey kd ag pw
  · rw [c]; exact h
  · rw [if_neg c] at hk; exact absurd rfl hk
set_option maxHeartbeats 1000000 in
set_option maxRecDepth 100000 in
theorem vk_nkey {kd : Nat} {ag pw : Int} (hk : kd ≤ 4) (ha : ag.natAbs ≤ 9) (hp : pw.natAbs ≤ 12) (h1 : kd = 1 → 0 ≤ ag) (h0 : kd = 0 → ag = 0) : vk (nkey kd ag pw) := by
  unfold nkey
  by_cases c : ag = 0
  · rw [if_pos c, vk_iff (by unfold okA; omega)]; unfold vkd; omega
  · rw [if_neg c]
    by_cases d : (kd = 3 ∨ kd = 4) ∧ ag < 0
    · rw [if_pos d, vk_iff (by unfold okA; omega)]; unfold vkd; omega
    · rw [if_neg d, vk_iff (by unfold okA; omega)]; unfold vkd; omega
def smK (k : Nat) : Prop := vk k ∧ (pwK k).natAbs ≤ 4 ∧ (agK k).natAbs ≤ 3
abbrev mts (a b : Nat) : Prop := a = b ∨ a = 0 ∨ b = 0 ∨ (wav a ∧ wav b)
set_option maxHeartbeats 1000000 in
set_option maxRecDepth 100000 in
theorem smK_facts {k : Nat} (h : smK k) : kdK k ≤ 4 ∧ (pwK k).natAbs ≤ 4 ∧ (agK k).natAbs ≤ 3 ∧ (kdK k = 0 → agK k = 0) ∧ (kdK k = 1 → 1 ≤ agK k) ∧ (kdK k = 2 → agK k ≠ 0) ∧ (wav (kdK k) → 1 ≤ agK k) := by
  have h1 := (vk_dec h.1).1
  unfold vkd at h1
  have h2 := h.2
  unfold wav
  omega
set_option maxHeartbeats 1000000 in
set_option maxRecDepth 100000 in
theorem sm_add {a b : Int} (ha : a.natAbs ≤ 3) (hb : b.natAbs ≤ 3) : (a + b).natAbs ≤ 9 := by omega
set_option maxHeartbeats 1000000 in
set_option maxRecDepth 100000 in
theorem sm_sub {a b : Int} (ha : a.natAbs ≤ 3) (hb : b.natAbs ≤ 3) : (a - b).natAbs ≤ 9 := by omega
set_option maxHeartbeats 1000000 in
set_option maxRecDepth 100000 in
theorem sm_pw {a b : Int} (ha : a.natAbs ≤ 4) (hb : b.natAbs ≤ 4) : (a + b).natAbs ≤ 12 := by omega
set_option maxHeartbeats 1000000 in
set_option maxRecDepth 100000 in
theorem mulC_facts {k1 k2 : Nat} {v1 v2 : Rat} (h1 : smK k1) (h2 : smK k2) (hm : mts (kdK k1) (kdK k2)) (s1 : smV v1) (s2 : smV v2) : supV (mulC k1 v1 k2 v2) ∧ scl 7200 144000000 (mulC k1 v1 k2 v2) := by
  have f1 := smK_facts h1
  have f2 := smK_facts h2
  obtain ⟨x, ex, lx, -⟩ := mul_scl s1 s2
  obtain ⟨y, ey, ly, -⟩ := mulh_scl s1 s2
  unfold mts wav at hm
  unfold wav at f1 f2
  unfold mulC wav
  have nm : ∀ (c : Prop) [Decidable c], ∃ t : Int, (if c then -(v1 * v2 * hlf) else v1 * v2 * hlf) = Rat.divInt t 7200 ∧ t.natAbs ≤ 72000000 := by
    intro c _
    by_cases d : c
    · rw [if_pos d, ey]; exact ⟨-y, Rat.neg_divInt _ _, by omega⟩
    · rw [if_neg d]; exact ⟨y, ey, ly⟩
  split
  · rename_i hw
    have hk : (if kdK k1 = kdK k2 then 4 else 3) ≤ 4 ∧ 3 ≤ (if kdK k1 = kdK k2 then 4 else 3) := by split <;> omega
    generalize (if kdK k1 = kdK k2 then 4 else 3) = kd at hk
    have h1' : kd = 1 → False := fun h => by omega
    have h0' : kd = 0 → False := fun h => by omega
    refine ⟨supV_add (supV_dl (vk_nkey hk.1 (sm_add f1.2.2.1 f2.2.2.1) (sm_pw f1.2.1 f2.2.1) (fun h => (h1' h).elim) (fun h => (h0' h).elim))) (supV_dl (vk_nkey hk.1 (sm_sub f1.2.2.1 f2.2.2.1) (sm_pw f1.2.1 f2.2.1) (fun h => (h1' h).elim) (fun h => (h0' h).elim))), ?_⟩
    obtain ⟨t, et, lt⟩ := nm (kdK k1 = 3 ∧ kdK k2 = 3)
    obtain ⟨t', et', lt'⟩ := nm (kdK k1 = 4 ∧ kdK k2 = 3)
    rw [et, et']
    exact scl_mono (scl_add (by omega) (scl_dl _ _ _) (scl_dl _ _ _)) (by omega)
  · obtain ⟨a1, a2, a3, a4, a5, -, -⟩ := f1
    obtain ⟨c1, c2, c3, c4, c5, -, -⟩ := f2
    have l1 := sm_add a3 c3
    have l2 := sm_pw a2 c2
    clear a2 a3 c2 c3 nm
    refine ⟨supV_dl (vk_nkey (Nat.max_le.mpr ⟨a1, c1⟩) l1 l2 ?_ ?_), ?_⟩
    · intro h
      clear l1 l2
      have : (kdK k1 = 1 ∧ kdK k2 = 1) ∨ (kdK k1 = 1 ∧ kdK k2 = 0) ∨ (kdK k1 = 0 ∧ kdK k2 = 1) := by omega
      rcases this with ⟨x, y⟩ | ⟨x, y⟩ | ⟨x, y⟩
      · have := a5 x; have := c5 y; omega
      · have := a5 x; have := c4 y; omega
      · have := a4 x; have := c5 y; omega
    · intro h
      clear l1 l2
      have x : kdK k1 = 0 := by omega
      have y : kdK k2 = 0 := by omega
      have := a4 x; have := c4 y; omega
    rw [ex]
    exact scl_mono (scl_dl _ _ _) (by omega)
section CMul
variable {w za zb : SumS} {n na nb : Nat} {Kw K L : Nat → Nat} {F A B : Nat → Rat}
set_option maxHeartbeats 1000000 in
set_option maxRecDepth 100000 in
theorem put_mul {M : Nat} (R : sRep w n Kw F) (hs : scl 7200 M F) (hM : M ≤ 200000000000000) (hn : n < 200) {kd : Nat} {ag pw : Int} (hk : kd ≤ 4) (ha : ag.natAbs ≤ 9) (hpw : pw.natAbs ≤ 12) (p q : Int) (hq : q ≠ 0) (hp : p.natAbs ≤ 10000) (hq' : q.natAbs ≤ 72) :
    ∃ w' n' K', f_X4_put 200 w (nI kd) (I32 ag) (I32 pw) (I64 p) (I64 q) = some w' ∧ sRep w' n' K' (addF F (dl kd ag pw (Rat.divInt p q))) ∧ gS_ov w' = gS_ov w ∧ n' ≤ n + 1 :=
  put_eq (nS := 200) (by omega) R hn (by unfold okT; omega) p q hq (scl_bdK (by omega) hs _ hp hq' (by have : M * 72 ≤ 200000000000000 * 72 := Nat.mul_le_mul_right _ hM; omega) (by decide))
set_option maxHeartbeats 1000000 in
set_option maxRecDepth 100000 in
theorem mmax_nI {a b : Nat} (ha : a ≤ 4) (hb : b ≤ 4) : mmax32 (nI a) (nI b) = nI (max a b) := by
  unfold mmax32
  by_cases c : a < b
  · rw [if_pos ((qI_lt (by omega) (by omega)).mpr c)]; congr 1; omega
  · rw [if_neg (fun h => c ((qI_lt (by omega) (by omega)).mp h))]; congr 1; omega
set_option maxHeartbeats 1000000 in
set_option maxRecDepth 100000 in
theorem putJoined_eq {M : Nat} (R : sRep w n Kw F) (hs : scl 7200 M F) (hM : M ≤ 100000000000000) (hn : n + 2 ≤ 200) (Ra : sRep za na K A) (Rb : sRep zb nb L B) (hna : na ≤ 40) (hnb : nb ≤ 40) {i j : Nat} (hi : i < na) (hj : j < nb) (h1 : smK (K i)) (h2 : smK (L j)) (s1 : smV (A (K i))) (s2 : smV (B (L j))) (hw : ¬ (wav (kdK (K i)) ∧ wav (kdK (L j)))) :
    ∃ w' n' K', f_X2_putJoined 200 40 40 za zb w (nI i) (nI j) = some w' ∧ sRep w' n' K' (addF F (mulC (K i) (A (K i)) (L j) (B (L j)))) ∧ gS_ov w' = gS_ov w ∧ n' ≤ n + 2 := by
  obtain ⟨a1, a2, a3, -⟩ := smK_facts h1
  obtain ⟨c1, c2, c3, -⟩ := smK_facts h2
  obtain ⟨-, -, -, e, b1, b2, b5⟩ := mul_scl s1 s2
  have l1 := sm_add a3 c3
  have l2 := sm_pw a2 c2
  have l3 : max (kdK (K i)) (kdK (L j)) ≤ 4 := Nat.max_le.mpr ⟨a1, c1⟩
  have l4 : ((A (K i)).den : Int) * (B (L j)).den ≠ 0 := by omega
  have l5 : (((A (K i)).den : Int) * (B (L j)).den).natAbs ≤ 72 := by omega
  unfold f_X2_putJoined
  rw [kindAt_eq Ra hna (by omega) hi, kindAt_eq Rb hnb (by omega) hj, argAt_eq Ra hna (by omega) hi, argAt_eq Rb hnb (by omega) hj, powAt_eq Ra hna (by omega) hi, powAt_eq Rb hnb (by omega) hj, topAt_eq Ra hna (by omega) hi, topAt_eq Rb hnb (by omega) hj, bottomAt_eq Ra hna (by omega) hi, bottomAt_eq Rb hnb (by omega) hj]
  simp only [Option.bind_some]
  rw [mmax_nI a1 c1, I32_add, I32_add, I64_mul, I64_mul]
  obtain ⟨w', n', K', q1, q2, q3, q4⟩ := put_mul R hs (Nat.le_trans hM (by decide)) (by omega) (kd := max (kdK (K i)) (kdK (L j))) (ag := agK (K i) + agK (L j)) (pw := pwK (K i) + pwK (L j)) l3 l1 l2 ((A (K i)).num * (B (L j)).num) ((A (K i)).den * (B (L j)).den) l4 b1 l5
  rw [q1, Option.bind_some]
  refine ⟨w', n', K', rfl, ?_, q3, by omega⟩
  unfold mulC
  rw [if_neg hw, e]; exact q2
set_option maxHeartbeats 1000000 in
set_option maxRecDepth 100000 in
theorem putWaves_eq {M : Nat} (R : sRep w n Kw F) (hs : scl 7200 M F) (hM : M ≤ 100000000000000) (hn : n + 2 ≤ 200) (Ra : sRep za na K A) (Rb : sRep zb nb L B) (hna : na ≤ 40) (hnb : nb ≤ 40) {i j : Nat} (hi : i < na) (hj : j < nb) (h1 : smK (K i)) (h2 : smK (L j)) (s1 : smV (A (K i))) (s2 : smV (B (L j))) (hw : wav (kdK (K i)) ∧ wav (kdK (L j))) :
    ∃ w' n' K', f_X2_putWaves 200 40 40 za zb w (nI i) (nI j) = some w' ∧ sRep w' n' K' (addF F (mulC (K i) (A (K i)) (L j) (B (L j)))) ∧ gS_ov w' = gS_ov w ∧ n' ≤ n + 2 := by
  obtain ⟨a1, a2, a3, -⟩ := smK_facts h1
  obtain ⟨c1, c2, c3, -⟩ := smK_facts h2
  have l1 := sm_add a3 c3
  have l1' := sm_sub a3 c3
  have l2 := sm_pw a2 c2
  obtain ⟨y, ey, ly, e, b6, b7⟩ := mulh_scl s1 s2
  obtain ⟨-, -, -, -, b1, -, -⟩ := mul_scl s1 s2
  have l4 : 2 * (((A (K i)).den : Int) * (B (L j)).den) ≠ 0 := by omega
  clear a1 a2 a3 c1 c2 c3
  have hw' := hw
  unfold wav at hw'
  unfold f_X2_putWaves f_X2_putWaves_27 f_X2_putWaves_91 f_X2_putWaves_92 f_X2_putWaves_110 f_X2_putWaves_111 f_X2_putWaves_143 f_X2_putWaves_178
  rw [kindAt_eq Ra hna (by omega) hi, kindAt_eq Rb hnb (by omega) hj, argAt_eq Ra hna (by omega) hi, argAt_eq Rb hnb (by omega) hj, powAt_eq Ra hna (by omega) hi, powAt_eq Rb hnb (by omega) hj, topAt_eq Ra hna (by omega) hi, topAt_eq Rb hnb (by omega) hj, bottomAt_eq Ra hna (by omega) hi, bottomAt_eq Rb hnb (by omega) hj]
  simp only [Option.bind_some]
  have e2 : (2 : Int64) * I64 ((A (K i)).den : Int) * I64 ((B (L j)).den : Int) = I64 (2 * ((A (K i)).den * (B (L j)).den)) := by
    have : (2 : Int64) = I64 2 := rfl
    rw [this, I64_mul, I64_mul, Int.mul_assoc]
  simp only [I32_add, I32_sub, I64_mul, I64_neg, e2]
  generalize hp : (A (K i)).num * (B (L j)).num = p at *
  generalize hq : (2 * (((A (K i)).den : Int) * (B (L j)).den)) = q at *
  have two : ∀ (kd : Nat) (p1 p2 : Int) (v1 v2 : Rat), kd = 3 ∨ kd = 4 → p1.natAbs ≤ 10000 → p2.natAbs ≤ 10000 → (∃ t : Int, Rat.divInt p1 q = Rat.divInt t 7200 ∧ t.natAbs ≤ 72000000) → v1 = Rat.divInt p1 q → v2 = Rat.divInt p2 q →
      ∃ w' n' K', ((f_X4_put 200 w (nI kd) (I32 (agK (K i) + agK (L j))) (I32 (pwK (K i) + pwK (L j))) (I64 p1) (I64 q)).bind fun r_1 => (f_X4_put 200 r_1 (nI kd) (I32 (agK (K i) - agK (L j))) (I32 (pwK (K i) + pwK (L j))) (I64 p2) (I64 q)).bind fun r_1 => some r_1) = some w' ∧ sRep w' n' K' (addF F (addF (dl kd (agK (K i) + agK (L j)) (pwK (K i) + pwK (L j)) v1) (dl kd (agK (K i) - agK (L j)) (pwK (K i) + pwK (L j)) v2))) ∧ gS_ov w' = gS_ov w ∧ n' ≤ n + 2 := by
    intro kd p1 p2 v1 v2 hkd m1 m2 ⟨t, et, lt⟩ g1 g2
    have hk4 : kd ≤ 4 := by rcases hkd with rfl | rfl <;> decide
    have hn1 : n < 200 := by omega
    obtain ⟨w1, n1, K1, q1, q2, q3, q4⟩ := put_mul R hs (Nat.le_trans hM (by decide)) hn1 (kd := kd) (ag := agK (K i) + agK (L j)) (pw := pwK (K i) + pwK (L j)) hk4 l1 l2 p1 q l4 m1 b7
    rw [q1, Option.bind_some]
    have hs' : scl 7200 (M + 72000000) (addF F (dl kd (agK (K i) + agK (L j)) (pwK (K i) + pwK (L j)) (Rat.divInt p1 q))) := by
      rw [et]; exact scl_add (by omega) hs (scl_mono (scl_dl _ _ _) lt)
    obtain ⟨w2, n2, K2, r1, r2, r3, r4⟩ := put_mul q2 hs' (Nat.le_trans (Nat.add_le_add_right hM _) (by decide)) (Nat.lt_of_le_of_lt q4 (Nat.lt_of_succ_le hn)) (kd := kd) (ag := agK (K i) - agK (L j)) (pw := pwK (K i) + pwK (L j)) hk4 l1' l2 p2 q l4 m2 b7
    rw [r1, Option.bind_some]
    refine ⟨w2, n2, K2, rfl, ?_, r3.trans q3, Nat.le_trans r4 (Nat.add_le_add_right q4 1)⟩
    rw [g1, g2, ← addF_assoc]; exact r2
  have tp : ∃ t : Int, Rat.divInt p q = Rat.divInt t 7200 ∧ t.natAbs ≤ 72000000 := ⟨y, by rw [← e]; exact ey, ly⟩
  have tn : ∃ t : Int, Rat.divInt (-p) q = Rat.divInt t 7200 ∧ t.natAbs ≤ 72000000 := ⟨-y, by rw [← Rat.neg_divInt, ← e, ey, Rat.neg_divInt], by rw [Int.natAbs_neg]; exact ly⟩
  have hn1 : -(A (K i) * B (L j) * hlf) = Rat.divInt (-p) q := by rw [e, Rat.neg_divInt]
  unfold mulC
  rw [if_pos hw]
  have n33 : (nI 3 = 3) = True := eq_true (by decide)
  have n34 : (nI 3 = 4) = False := eq_false (by decide)
  have n43 : (nI 4 = 3) = False := eq_false (by decide)
  have n44 : (nI 4 = 4) = True := eq_true (by decide)
  have m34 : (nI 3 = nI 4) = False := eq_false (by decide)
  have m43 : (nI 4 = nI 3) = False := eq_false (by decide)
  have z0 : ((0 : Int32) = 0) = True := eq_true rfl
  have z1 : ((1 : Int32) = 0) = False := eq_false (by decide)
  have k34 : ((3 : Nat) = 4) = False := eq_false (by decide)
  have k43 : ((4 : Nat) = 3) = False := eq_false (by decide)
  rcases hw' with ⟨c1 | c1, c2 | c2⟩ <;> rw [c1, c2]
  · simp only [n33, n34, n43, n44, m34, m43, z0, z1, k34, k43, not_true_eq_false, not_false_eq_true, if_true, if_false, and_self, and_true, true_and, and_false, false_and]
    exact two 4 (-p) p _ _ (Or.inr rfl) (by rw [Int.natAbs_neg]; exact b1) b1 tn hn1 e
  · simp only [n33, n34, n43, n44, m34, m43, z0, z1, k34, k43, not_true_eq_false, not_false_eq_true, if_true, if_false, and_self, and_true, true_and, and_false, false_and]
    exact two 3 p p _ _ (Or.inl rfl) b1 b1 tp e e
  · simp only [n33, n34, n43, n44, m34, m43, z0, z1, k34, k43, not_true_eq_false, not_false_eq_true, if_true, if_false, and_self, and_true, true_and, and_false, false_and]
    exact two 3 p (-p) _ _ (Or.inl rfl) b1 (by rw [Int.natAbs_neg]; exact b1) tp e hn1
  · simp only [n33, n34, n43, n44, m34, m43, z0, z1, k34, k43, not_true_eq_false, not_false_eq_true, if_true, if_false, and_self, and_true, true_and, and_false, false_and]
    exact two 4 p p _ _ (Or.inr rfl) b1 b1 tp e e
end CMul
set_option maxHeartbeats 1000000 in
set_option maxRecDepth 100000 in
theorem canMeet_dec : ∀ a b : Fin 5, f_X2_canMeet (nI a.val) (nI b.val) = some (if mts a.val b.val then 1 else 0) := by decide +kernel
set_option maxHeartbeats 1000000 in
set_option maxRecDepth 100000 in
theorem canMeet_eq {a b : Nat} (ha : a ≤ 4) (hb : b ≤ 4) : f_X2_canMeet (nI a) (nI b) = some (if mts a b then 1 else 0) := canMeet_dec ⟨a, by omega⟩ ⟨b, by omega⟩
set_option maxHeartbeats 1000000 in
set_option maxRecDepth 100000 in
theorem isWave_dec : ∀ a : Fin 5, f_X2_isWave (nI a.val) = some (if wav a.val then 1 else 0) := by decide +kernel
set_option maxHeartbeats 1000000 in
set_option maxRecDepth 100000 in
theorem isWave_eq {a : Nat} (ha : a ≤ 4) : f_X2_isWave (nI a) = some (if wav a then 1 else 0) := isWave_dec ⟨a, by omega⟩
section Told
set_option maxHeartbeats 1000000 in
set_option maxRecDepth 100000 in
theorem told_in {za zb : SumS} {na nb : Nat} {K L : Nat → Nat} {A B : Nat → Rat} (Ra : sRep za na K A) (Rb : sRep zb nb L B) (hna : na ≤ 40) (hnb : nb ≤ 40) (ka : ∀ i, i < na → kdK (K i) ≤ 4) (kb' : ∀ j, j < nb → kdK (L j) ≤ 4) (kb : Int32 → Option Int32) (i : Nat) (hi : i < na) : ∀ (d fu j : Nat), j + d = nb → d < fu → ((∀ l, j ≤ l → l < nb → mts (kdK (K i)) (kdK (L l))) ∧ f_X2_canBeTold_12 40 40 za zb kb fu (nI i) (nI j) = kb (nI (i + 1))) ∨ ((∃ l, l < nb ∧ ¬ mts (kdK (K i)) (kdK (L l))) ∧ f_X2_canBeTold_12 40 40 za zb kb fu (nI i) (nI j) = some 0) := by
  intro d
  induction d with
  | zero =>
    intro fu j hj hf
    obtain ⟨fu, rfl⟩ : ∃ f, fu = f + 1 := ⟨fu - 1, by omega⟩
    left
    refine ⟨fun l h1 h2 => by omega, ?_⟩
    rw [f_X2_canBeTold_12]
    unfold f_X4_size
    rw [Option.bind_some, Rb.1, if_pos ((qI_le (by omega) (by omega)).mpr (by omega)), nI_add1]
  | succ d ih =>
    intro fu j hj hf
    obtain ⟨fu, rfl⟩ : ∃ f, fu = f + 1 := ⟨fu - 1, by omega⟩
    have hj' : j < nb := by omega
    rw [f_X2_canBeTold_12]
    unfold f_X4_size
    rw [Option.bind_some, Rb.1, if_neg (fun h => by have := (qI_le (by omega) (by omega)).mp h; omega), kindAt_eq Ra hna (by omega) hi, kindAt_eq Rb hnb (by omega) hj']
    simp only [Option.bind_some]
    rw [canMeet_eq (ka i hi) (kb' j hj'), Option.bind_some]
    by_cases c : mts (kdK (K i)) (kdK (L j))
    · rw [if_pos c, if_pos (show ¬ (1 : Int32) = 0 by decide), nI_add1]
      rcases ih fu (j + 1) (by omega) (by omega) with ⟨h1, h2⟩ | ⟨h1, h2⟩
      · left
        refine ⟨fun l hl hl' => ?_, h2⟩
        by_cases e : l = j
        · subst e; exact c
        · exact h1 l (by omega) hl'
      · right; exact ⟨h1, h2⟩
    · right
      rw [if_neg c, if_neg (by simp)]
      exact ⟨⟨j, hj', c⟩, rfl⟩
set_option maxHeartbeats 1000000 in
set_option maxRecDepth 100000 in
theorem told_out {za zb : SumS} {na nb : Nat} {K L : Nat → Nat} {A B : Nat → Rat} (Ra : sRep za na K A) (Rb : sRep zb nb L B) (hna : na ≤ 40) (hnb : nb ≤ 40) (ka : ∀ i, i < na → kdK (K i) ≤ 4) (kb' : ∀ j, j < nb → kdK (L j) ≤ 4) : ∀ (d fu i : Nat), i + d = na → d < fu → (∀ p, p < i → ∀ l, l < nb → mts (kdK (K p)) (kdK (L l))) → ∃ r, f_X2_canBeTold_2 40 40 za zb fu (nI i) = some r ∧ (r = 0 ∨ r = 1) ∧ (r = 1 ↔ ∀ p, p < na → ∀ l, l < nb → mts (kdK (K p)) (kdK (L l))) := by
  intro d
  induction d with
  | zero =>
    intro fu i hi hf hp
    obtain ⟨fu, rfl⟩ : ∃ f, fu = f + 1 := ⟨fu - 1, by omega⟩
    rw [f_X2_canBeTold_2]
    unfold f_X4_size
    rw [Option.bind_some, Ra.1, if_pos ((qI_le (by omega) (by omega)).mpr (by omega))]
    exact ⟨1, rfl, Or.inr rfl, ⟨fun _ p h => hp p (by omega), fun _ => rfl⟩⟩
  | succ d ih =>
    intro fu i hi hf hp
    obtain ⟨fu, rfl⟩ : ∃ f, fu = f + 1 := ⟨fu - 1, by omega⟩
    rw [f_X2_canBeTold_2]
    unfold f_X4_size
    rw [Option.bind_some, Ra.1, if_neg (fun h => by have := (qI_le (by omega) (by omega)).mp h; omega)]
    have := told_in Ra Rb hna hnb ka kb' (fun x2_ => f_X2_canBeTold_2 40 40 za zb fu x2_) i (by omega) nb fuel 0 (by omega) (by rw [fuel_eq]; omega)
    have e0 : nI 0 = 0 := rfl
    rw [e0] at this
    rcases this with ⟨h1, h2⟩ | ⟨⟨l, h1, h1'⟩, h2⟩
    · rw [h2]
      refine ih fu (i + 1) (by omega) (by omega) (fun p hp' l hl => ?_)
      by_cases e : p = i
      · subst e; exact h1 l (by omega) hl
      · exact hp p (by omega) l hl
    · rw [h2]
      exact ⟨0, rfl, Or.inl rfl, ⟨fun h => absurd h (by decide), fun h => absurd (h i (by omega) l h1) h1'⟩⟩
end Told
def rowC (A B : Nat → Rat) (L : Nat → Nat) (j : Nat) (k1 : Nat) : Nat → Rat := sumL (pre L j) (fun k2 => mulC k1 (A k1) k2 (B k2))
set_option maxHeartbeats 1000000 in
set_option maxRecDepth 100000 in
theorem scl_cast {D : Int} {M M' : Nat} {F : Nat → Rat} (h : scl D M F) (e : M = M') : scl D M' F := by rw [← e]; exact h
section Prod
set_option maxHeartbeats 1000000 in
set_option maxRecDepth 100000 in
theorem prod_in {za zb : SumS} {na nb : Nat} {K L : Nat → Nat} {A B : Nat → Rat} (Ra : sRep za na K A) (Rb : sRep zb nb L B) (hna : na ≤ 40) (hnb : nb ≤ 40) (ka : ∀ i, i < na → smK (K i) ∧ smV (A (K i))) (kb' : ∀ j, j < nb → smK (L j) ∧ smV (B (L j))) (hm : ∀ p, p < na → ∀ l, l < nb → mts (kdK (K p)) (kdK (L l))) (kb : SumS → Int32 → Option SumS) (i : Nat) (hi : i < na) (F0 : Nat → Rat) : ∀ (d fu j n M : Nat) (w : SumS) (Kw : Nat → Nat), j + d = nb → d < fu → sRep w n Kw (addF F0 (rowC A B L j (K i))) → scl 7200 M (addF F0 (rowC A B L j (K i))) → M + d * 144000000 ≤ 100000000000000 → n + 2 * d ≤ 200 →
    ∃ w' n' K', f_X2_putProduct_13 200 40 40 za zb kb fu w (nI i) (nI j) = kb w' (nI (i + 1)) ∧ sRep w' n' K' (addF F0 (rowC A B L nb (K i))) ∧ scl 7200 (M + d * 144000000) (addF F0 (rowC A B L nb (K i))) ∧ gS_ov w' = gS_ov w ∧ n' ≤ n + 2 * d := by
  intro d
  induction d with
  | zero =>
    intro fu j n M w Kw hj hf R hs hM hn
    obtain ⟨fu, rfl⟩ : ∃ f, fu = f + 1 := ⟨fu - 1, by omega⟩
    rw [f_X2_putProduct_13]
    unfold f_X4_size
    rw [Option.bind_some, Rb.1, if_pos ((qI_le (by omega) (by omega)).mpr (by omega)), nI_add1]
    have : j = nb := by omega
    subst this
    exact ⟨w, n, Kw, rfl, R, scl_mono hs (by omega), rfl, by omega⟩
  | succ d ih =>
    intro fu j n M w Kw hj hf R hs hM hn
    obtain ⟨fu, rfl⟩ : ∃ f, fu = f + 1 := ⟨fu - 1, by omega⟩
    have hj' : j < nb := by omega
    obtain ⟨s1, s2⟩ := ka i hi
    obtain ⟨s3, s4⟩ := kb' j hj'
    have q1 := (smK_facts s1).1
    have q2 := (smK_facts s3).1
    rw [f_X2_putProduct_13]
    unfold f_X4_size
    rw [Option.bind_some, Rb.1, if_neg (fun h => by have := (qI_le (by omega) (by omega)).mp h; omega), kindAt_eq Ra hna (by omega) hi, kindAt_eq Rb hnb (by omega) hj']
    simp only [Option.bind_some]
    rw [isWave_eq q1, isWave_eq q2]
    simp only [Option.bind_some]
    unfold f_X2_putProduct_57 f_X2_putProduct_66
    have hrow : addF (addF F0 (rowC A B L j (K i))) (mulC (K i) (A (K i)) (L j) (B (L j))) = addF F0 (rowC A B L (j + 1) (K i)) := by
      unfold rowC
      rw [sumL_pre_succ, addF_assoc]
    have hsc : scl 7200 (M + 144000000) (addF F0 (rowC A B L (j + 1) (K i))) := by
      rw [← hrow]; exact scl_add (by omega) hs (mulC_facts s1 s3 (hm i hi j hj') s2 s4).2
    have next : ∀ (w1 : SumS) (n1 : Nat) (K1 : Nat → Nat), sRep w1 n1 K1 (addF (addF F0 (rowC A B L j (K i))) (mulC (K i) (A (K i)) (L j) (B (L j)))) → gS_ov w1 = gS_ov w → n1 ≤ n + 2 →
        ∃ w' n' K', f_X2_putProduct_13 200 40 40 za zb kb fu w1 (nI i) (nI j + 1) = kb w' (nI (i + 1)) ∧ sRep w' n' K' (addF F0 (rowC A B L nb (K i))) ∧ scl 7200 (M + (d + 1) * 144000000) (addF F0 (rowC A B L nb (K i))) ∧ gS_ov w' = gS_ov w ∧ n' ≤ n + 2 * (d + 1) := by
      intro w1 n1 K1 r1 r2 r3
      rw [hrow] at r1
      rw [nI_add1]
      obtain ⟨w', n', K', p1, p2, p3, p4, p5⟩ := ih fu (j + 1) n1 (M + 144000000) w1 K1 (by omega) (by omega) r1 hsc (by omega) (by omega)
      exact ⟨w', n', K', p1, p2, scl_cast p3 (by omega), p4.trans r2, by omega⟩
    by_cases c : wav (kdK (K i)) ∧ wav (kdK (L j))
    · rw [if_pos c.1, if_pos c.2, if_neg (show ¬ (1 : Int32) = 0 by decide), if_neg (show ¬ (1 : Int32) = 0 by decide)]
      obtain ⟨w1, n1, K1, a1, a2, a3, a4⟩ := putWaves_eq R hs (by omega) (by omega) Ra Rb hna hnb hi hj' s1 s3 s2 s4 c
      rw [a1, Option.bind_some]
      exact next w1 n1 K1 a2 a3 a4
    · obtain ⟨w1, n1, K1, a1, a2, a3, a4⟩ := putJoined_eq R hs (by omega) (by omega) Ra Rb hna hnb hi hj' s1 s3 s2 s4 c
      rw [a1, Option.bind_some]
      have := next w1 n1 K1 a2 a3 a4
      by_cases c1 : wav (kdK (K i))
      · have c2 : ¬ wav (kdK (L j)) := fun h => c ⟨c1, h⟩
        rw [if_pos c1, if_neg c2, if_neg (show ¬ (1 : Int32) = 0 by decide), if_pos rfl]
        exact this
      · rw [if_neg c1, if_pos rfl]
        exact this
set_option maxHeartbeats 1000000 in
set_option maxRecDepth 100000 in
theorem prod_out {za zb : SumS} {na nb : Nat} {K L : Nat → Nat} {A B : Nat → Rat} (Ra : sRep za na K A) (Rb : sRep zb nb L B) (hna : na ≤ 40) (hnb : nb ≤ 40) (ka : ∀ i, i < na → smK (K i) ∧ smV (A (K i))) (kb' : ∀ j, j < nb → smK (L j) ∧ smV (B (L j))) (hm : ∀ p, p < na → ∀ l, l < nb → mts (kdK (K p)) (kdK (L l))) (hnm : na * nb ≤ 100) : ∀ (d fu i n M : Nat) (w : SumS) (Kw : Nat → Nat), i + d = na → d < fu → sRep w n Kw (sumL (pre K i) (rowC A B L nb)) → scl 7200 (i * (nb * 144000000)) (sumL (pre K i) (rowC A B L nb)) → n ≤ 2 * (i * nb) →
    ∃ w' n' K', f_X2_putProduct_2 200 40 40 za zb fu w (nI i) = some w' ∧ sRep w' n' K' (sumL (pre K na) (rowC A B L nb)) ∧ scl 7200 (na * (nb * 144000000)) (sumL (pre K na) (rowC A B L nb)) ∧ gS_ov w' = gS_ov w ∧ n' ≤ 200 := by
  intro d
  induction d with
  | zero =>
    intro fu i n M w Kw hi hf R hs hn
    obtain ⟨fu, rfl⟩ : ∃ f, fu = f + 1 := ⟨fu - 1, by omega⟩
    rw [f_X2_putProduct_2]
    unfold f_X4_size
    rw [Option.bind_some, Ra.1, if_pos ((qI_le (by omega) (by omega)).mpr (by omega))]
    have : i = na := by omega
    subst this
    exact ⟨w, n, Kw, rfl, R, hs, rfl, by omega⟩
  | succ d ih =>
    intro fu i n M w Kw hi hf R hs hn
    obtain ⟨fu, rfl⟩ : ∃ f, fu = f + 1 := ⟨fu - 1, by omega⟩
    have hi' : i < na := by omega
    rw [f_X2_putProduct_2]
    unfold f_X4_size
    rw [Option.bind_some, Ra.1, if_neg (fun h => by have := (qI_le (by omega) (by omega)).mp h; omega)]
    have h0 : addF (sumL (pre K i) (rowC A B L nb)) (rowC A B L 0 (K i)) = sumL (pre K i) (rowC A B L nb) := addF_0 _
    have hb1 : (i + 1) * nb ≤ na * nb := Nat.mul_le_mul_right _ (by omega)
    have hb2 : (i + 1) * nb = i * nb + nb := Nat.succ_mul i nb
    have hb3 : i * (nb * 144000000) ≤ 40 * (40 * 144000000) := Nat.mul_le_mul (by omega) (Nat.mul_le_mul_right _ hnb)
    have hb4 : nb * 144000000 ≤ 40 * 144000000 := Nat.mul_le_mul_right _ hnb
    obtain ⟨w1, n1, K1, a1, a2, a3, a4, a5⟩ := prod_in Ra Rb hna hnb ka kb' hm (fun zS_ x3_ => f_X2_putProduct_2 200 40 40 za zb fu zS_ x3_) i hi' (sumL (pre K i) (rowC A B L nb)) nb fuel 0 n (i * (nb * 144000000)) w Kw (by omega) (by rw [fuel_eq]; omega) (by rw [h0]; exact R) (by rw [h0]; exact hs) (by omega) (by omega)
    have a1' : f_X2_putProduct_13 200 40 40 za zb (fun zS_ x3_ => f_X2_putProduct_2 200 40 40 za zb fu zS_ x3_) fuel w (nI i) 0 = _ := a1
    rw [a1']
    rw [← sumL_pre_succ] at a2 a3
    obtain ⟨w', n', K', p1, p2, p3, p4, p5⟩ := ih fu (i + 1) n1 M w1 K1 (by omega) (by omega) a2 (scl_cast a3 (by rw [Nat.succ_mul])) (by omega)
    exact ⟨w', n', K', p1, p2, p3, p4.trans a4, p5⟩
end Prod
set_option maxHeartbeats 1000000 in
set_option maxRecDepth 100000 in
theorem dl_sin (ag pw : Int) (v : Rat) : dl 3 (-ag) pw (-v) = dl 3 ag pw v := by
  unfold dl nkey nval
  have hz : (-ag = 0) ↔ ag = 0 := by omega
  by_cases c : ag = 0
  · rw [if_pos (hz.mpr c), if_pos c, if_pos (hz.mpr c), if_pos c, if_pos rfl, if_pos rfl]
  · rw [if_neg (fun h => c (hz.mp h)), if_neg c, if_neg (fun h => c (hz.mp h)), if_neg c]
    by_cases d : ag < 0
    · rw [if_neg (show ¬ (((3 : Nat) = 3 ∨ (3 : Nat) = 4) ∧ -ag < 0) by omega), if_pos (show (((3 : Nat) = 3 ∨ (3 : Nat) = 4) ∧ ag < 0) by omega), if_neg (show ¬ ((3 : Nat) = 3 ∧ -ag < 0) by omega), if_pos (show ((3 : Nat) = 3 ∧ ag < 0) by omega)]
    · rw [if_pos (show (((3 : Nat) = 3 ∨ (3 : Nat) = 4) ∧ -ag < 0) by omega), if_neg (show ¬ (((3 : Nat) = 3 ∨ (3 : Nat) = 4) ∧ ag < 0) by omega), if_pos (show ((3 : Nat) = 3 ∧ -ag < 0) by omega), if_neg (show ¬ ((3 : Nat) = 3 ∧ ag < 0) by omega), Int.neg_neg, Rat.neg_neg]
set_option maxHeartbeats 1000000 in
set_option maxRecDepth 100000 in
theorem addT_mul {z : MdS} {F : Nat → Rat} {M : Nat} (R : rRep z 8 F) (hs : scl 7200 M F) (hM : M ≤ 200000000000000) {kd : Nat} {ag pw : Int} (hk : kd ≤ 4) (ha : ag.natAbs ≤ 9) (hpw : pw.natAbs ≤ 12) (h1 : kd = 1 → 0 ≤ ag) (h0 : kd = 0 → ag = 0) (p q : Int) (hq : 0 < q) (hp : p.natAbs ≤ 10000) (hq' : q.natAbs ≤ 72) :
    ∃ z', f_X7_addTerm z 8 (nI kd) (I32 ag) (I32 pw) (I64 p) (I64 q) = some z' ∧ rRep z' 8 (addF F (dl kd ag pw (Rat.divInt p q))) ∧ mSame z z' ∧ mRow z z' 8 ∧ gM_isFull z' = gM_isFull z := by
  obtain ⟨z', q1, q2, q3, q4, q5, q6, q7, q8, q9⟩ := addTerm_eq' z 8 (by omega) F R (kd := kd) (ag := ag) (pw := pw) (by unfold okT; omega) ⟨h1, h0⟩ p q hq (r64_of_abs hp (by omega)) (scl_bdK (by omega) hs _ hp hq' (by have : M * 72 ≤ 200000000000000 * 72 := Nat.mul_le_mul_right _ hM; omega) (by decide))
  exact ⟨z', q1, q6, q2, q3, q7 (vk_nkey hk ha hpw h1 h0)⟩
set_option maxHeartbeats 1000000 in
set_option maxRecDepth 100000 in
theorem nwav0 : ¬ wav 0 := by unfold wav; omega
set_option maxHeartbeats 1000000 in
set_option maxRecDepth 100000 in
theorem mts_wav {a b : Nat} (h : mts a b) (h3 : 3 ≤ a) (h4 : a ≤ 4) (hb : b ≠ 0) : wav a ∧ wav b := by unfold mts wav at h; unfold wav; omega
set_option maxHeartbeats 1000000 in
set_option maxRecDepth 100000 in
theorem mts_eq {a b : Nat} (h : mts a b) (h3 : ¬ 3 ≤ a) (ha : a ≠ 0) (hb : b ≠ 0) : a = b ∧ ¬ wav a := by unfold mts wav at h; unfold wav; omega
set_option maxHeartbeats 1000000 in
set_option maxRecDepth 100000 in
theorem multiply_eq {z : MdS} {F : Nat → Rat} {M : Nat} (R : rRep z 8 F) (hs : scl 7200 M F) (hM : M ≤ 199000000000000) {f g k1 k2 : Nat} (hf : f < 46) (hg : g < 46) (e1 : kdK k1 = kdF f) (e2 : agK k1 = ctF f) (e3 : kdK k2 = kdF g) (e4 : agK k2 = ctF g) (h1 : smK k1) (h2 : smK k2) (hm : mts (kdK k1) (kdK k2)) {v1 v2 : Rat} (s1 : smV v1) (s2 : smV v2) :
    ∃ z', f_X7_multiply z (nI f) (nI g) (I32 (pwK k1 + pwK k2)) (I64 (v1.num * v2.num)) (I64 (v1.den * v2.den)) = some z' ∧ rRep z' 8 (addF F (mulC k1 v1 k2 v2)) ∧ mSame z z' ∧ mRow z z' 8 ∧ gM_isFull z' = gM_isFull z := by
  obtain ⟨a1, a2, a3, a4, a5, -, a7⟩ := smK_facts h1
  obtain ⟨c1, c2, c3, c4, c5, -, c7⟩ := smK_facts h2
  have l1 := sm_add a3 c3
  have l1' := sm_sub a3 c3
  have l1'' := sm_sub c3 a3
  have l2 := sm_pw a2 c2
  obtain ⟨y, ey, ly, e, b6, b7⟩ := mulh_scl s1 s2
  obtain ⟨-, -, -, ej, b1, b2, b3⟩ := mul_scl s1 s2
  have b2' : ((v1.den : Int) * v2.den).natAbs ≤ 72 := by omega
  clear a2 c2
  unfold f_X7_multiply
  rw [(kindOf_eq ⟨f, hf⟩).1, (kindOf_eq ⟨g, hg⟩).1, (kindOf_eq ⟨f, hf⟩).2, (kindOf_eq ⟨g, hg⟩).2]
  simp only [Option.bind_some]
  rw [← e1, ← e2, ← e3, ← e4]
  have e2q : (2 : Int64) * I64 ((v1.den : Int) * v2.den) = I64 (2 * (v1.den * v2.den)) := by
    have : (2 : Int64) = I64 2 := rfl
    rw [this, I64_mul]
  clear e1 e2 e3 e4 hf hg
  generalize hkd1 : kdK k1 = A at *
  generalize hkd2 : kdK k2 = B at *
  generalize hn1 : agK k1 = n at *
  generalize hn2 : agK k2 = i at *
  generalize hpw : pwK k1 + pwK k2 = m at *
  generalize hp : v1.num * v2.num = p at *
  generalize hq0 : ((v1.den : Int) * v2.den) = q0 at *
  have hq2 : 0 < 2 * q0 := by omega
  have tp : ∃ t : Int, Rat.divInt p (2 * q0) = Rat.divInt t 7200 ∧ t.natAbs ≤ 72000000 := ⟨y, by rw [← e]; exact ey, ly⟩
  have tn : ∃ t : Int, Rat.divInt (-p) (2 * q0) = Rat.divInt t 7200 ∧ t.natAbs ≤ 72000000 := ⟨-y, by rw [← Rat.neg_divInt, ← e, ey, Rat.neg_divInt], by rw [Int.natAbs_neg]; exact ly⟩
  have bn : (-p).natAbs ≤ 10000 := by rw [Int.natAbs_neg]; exact b1
  have hn1' : -(v1 * v2 * hlf) = Rat.divInt (-p) (2 * q0) := by rw [e, Rat.neg_divInt]
  have two : ∀ (kd : Nat) (g1 g2 : Int) (p1 p2 : Int), kd = 3 ∨ kd = 4 → g1.natAbs ≤ 9 → g2.natAbs ≤ 9 → p1.natAbs ≤ 10000 → p2.natAbs ≤ 10000 → (∃ t : Int, Rat.divInt p1 (2 * q0) = Rat.divInt t 7200 ∧ t.natAbs ≤ 72000000) →
      ∃ z', ((f_X7_addTerm z 8 (nI kd) (I32 g1) (I32 m) (I64 p1) (I64 (2 * q0))).bind fun r_1 => (f_X7_addTerm r_1 8 (nI kd) (I32 g2) (I32 m) (I64 p2) (I64 (2 * q0))).bind fun r_2 => some r_2) = some z' ∧ rRep z' 8 (addF F (addF (dl kd g1 m (Rat.divInt p1 (2 * q0))) (dl kd g2 m (Rat.divInt p2 (2 * q0))))) ∧ mSame z z' ∧ mRow z z' 8 ∧ gM_isFull z' = gM_isFull z := by
    intro kd g1 g2 p1 p2 hkd m1 m2 m3 m4 ⟨t, et, lt⟩
    have hk4 : kd ≤ 4 := by rcases hkd with rfl | rfl <;> decide
    have hk1 : kd = 1 → False := by rcases hkd with rfl | rfl <;> decide
    have hk0 : kd = 0 → False := by rcases hkd with rfl | rfl <;> decide
    obtain ⟨z1, q1, q2, q3, q4, q5⟩ := addT_mul R hs (Nat.le_trans hM (by decide)) (kd := kd) (ag := g1) (pw := m) hk4 m1 l2 (fun h => (hk1 h).elim) (fun h => (hk0 h).elim) p1 (2 * q0) hq2 m3 b7
    rw [q1, Option.bind_some]
    have hs' : scl 7200 (M + 72000000) (addF F (dl kd g1 m (Rat.divInt p1 (2 * q0)))) := by
      rw [et]; exact scl_add (by omega) hs (scl_mono (scl_dl _ _ _) lt)
    obtain ⟨z2, r1, r2, r3, r4, r5⟩ := addT_mul q2 hs' (Nat.le_trans (Nat.add_le_add_right hM _) (by decide)) (kd := kd) (ag := g2) (pw := m) hk4 m2 l2 (fun h => (hk1 h).elim) (fun h => (hk0 h).elim) p2 (2 * q0) hq2 m4 b7
    rw [r1, Option.bind_some]
    exact ⟨z2, rfl, by rw [← addF_assoc]; exact r2, q3.trans r3, q4.trans r4, r5.trans q5⟩
  unfold mulC
  rw [hkd1, hkd2, hn1, hn2, hpw]
  have hA : A < 2147483648 := Nat.lt_of_le_of_lt a1 (by decide)
  have hB : B < 2147483648 := Nat.lt_of_le_of_lt c1 (by decide)
  have t0 : nI A = 0 ↔ A = 0 := nI_inj (m := 0) hA (by decide)
  have t0' : nI B = 0 ↔ B = 0 := nI_inj (m := 0) hB (by decide)
  have t3 : (3 : Int32) ≤ nI A ↔ 3 ≤ A := qI_le (n := 3) (by decide) hA
  have one : ∀ (kd : Nat) (ag : Int), kd ≤ 4 → ag.natAbs ≤ 9 → (kd = 1 → 0 ≤ ag) → (kd = 0 → ag = 0) → ∃ z', ((f_X7_addTerm z 8 (nI kd) (I32 ag) (I32 m) (I64 p) (I64 q0)).bind fun r_1 => some r_1) = some z' ∧ rRep z' 8 (addF F (dl kd ag m (Rat.divInt p q0))) ∧ mSame z z' ∧ mRow z z' 8 ∧ gM_isFull z' = gM_isFull z := by
    intro kd ag x1 x2 x3 x4
    obtain ⟨z1, q1, q2, q3, q4, q5⟩ := addT_mul R hs (Nat.le_trans hM (by decide)) (kd := kd) (ag := ag) (pw := m) x1 x2 l2 x3 x4 p q0 b3 b1 b2'
    rw [q1, Option.bind_some]
    exact ⟨z1, rfl, q2, q3, q4, q5⟩
  unfold f_X7_multiply_34 f_X7_multiply_49 f_X7_multiply_61
  by_cases d1 : A = 0
  · rw [if_pos (t0.mpr d1), if_neg (fun h => h (t0.mpr d1)), if_neg (fun h => h (t0.mpr d1)), if_neg (fun h => by have := h.1; rw [d1] at this; exact nwav0 this), ej]
    have hmx : max A B = B := by rw [d1]; exact Nat.zero_max B
    have hni : n + i = i := by rw [a4 d1, Int.zero_add]
    rw [hmx, hni]
    exact one B i c1 (Nat.le_trans c3 (by decide)) (fun h => Int.le_trans (by decide) (c5 h)) c4
  rw [if_neg (fun h => d1 (t0.mp h))]
  by_cases d2 : B = 0
  · rw [if_neg (fun h => h (t0'.mpr d2)), if_pos (fun h => d1 (t0.mp h)), if_pos (fun h => d1 (t0.mp h)), if_neg (fun h => by have := h.2; rw [d2] at this; exact nwav0 this), ej]
    have hmx : max A B = A := by rw [d2]; exact Nat.max_zero A
    have hni : n + i = n := by rw [c4 d2, Int.add_zero]
    rw [hmx, hni]
    exact one A n a1 (Nat.le_trans a3 (by decide)) (fun h => Int.le_trans (by decide) (a5 h)) a4
  rw [if_pos (fun h => d2 (t0'.mp h))]
  by_cases d3 : 3 ≤ A
  · rw [if_pos (t3.mpr d3)]
    have hw : wav A ∧ wav B := mts_wav hm d3 a1 d2
    rw [if_pos hw]
    unfold wav at hw
    unfold f_X7_multiply_176 f_X7_multiply_191 f_X7_multiply_151
    have n33 : (nI 3 = 3) = True := eq_true (by decide)
    have n43 : (nI 4 = 3) = False := eq_false (by decide)
    have m34 : (nI 3 = nI 4) = False := eq_false (by decide)
    have m43 : (nI 4 = nI 3) = False := eq_false (by decide)
    have k34 : ((3 : Nat) = 4) = False := eq_false (by decide)
    have k43 : ((4 : Nat) = 3) = False := eq_false (by decide)
    simp only [I32_add, I32_sub, I64_neg, e2q]
    rcases hw with ⟨x1 | x1, x2 | x2⟩ <;> rw [x1, x2]
    · simp only [n33, n43, m34, m43, k34, k43, not_true_eq_false, not_false_eq_true, if_true, if_false, and_self, and_true, true_and, and_false, false_and]
      obtain ⟨z', r1, r2, r3⟩ := two 4 (n - i) (n + i) p (-p) (Or.inr rfl) l1' l1 b1 bn tp
      rw [addF_comm (dl 4 (n - i) m _), ← e, ← hn1'] at r2
      exact ⟨z', r1, r2, r3⟩
    · simp only [n33, n43, m34, m43, k34, k43, not_true_eq_false, not_false_eq_true, if_true, if_false, and_self, and_true, true_and, and_false, false_and]
      obtain ⟨z', r1, r2, r3⟩ := two 3 (n + i) (n - i) p p (Or.inl rfl) l1 l1' b1 b1 tp
      rw [← e] at r2
      exact ⟨z', r1, r2, r3⟩
    · simp only [n33, n43, m34, m43, k34, k43, not_true_eq_false, not_false_eq_true, if_true, if_false, and_self, and_true, true_and, and_false, false_and]
      obtain ⟨z', r1, r2, r3⟩ := two 3 (i + n) (i - n) p p (Or.inl rfl) (by rw [Int.add_comm]; exact l1) l1'' b1 b1 tp
      have hsn : dl 3 (i - n) m (v1 * v2 * hlf) = dl 3 (n - i) m (-(v1 * v2 * hlf)) := by
        have := dl_sin (i - n) m (v1 * v2 * hlf)
        rw [Int.neg_sub] at this
        exact this.symm
      rw [← e, hsn] at r2
      rw [Int.add_comm i n] at r2
      exact ⟨z', r1, r2, r3⟩
    · simp only [n33, n43, m34, m43, k34, k43, not_true_eq_false, not_false_eq_true, if_true, if_false, and_self, and_true, true_and, and_false, false_and]
      obtain ⟨z', r1, r2, r3⟩ := two 4 (n - i) (n + i) p p (Or.inr rfl) l1' l1 b1 b1 tp
      rw [addF_comm (dl 4 (n - i) m _), ← e] at r2
      exact ⟨z', r1, r2, r3⟩
  · obtain ⟨hAB, hnw⟩ := mts_eq hm d3 d1 d2
    rw [if_neg (fun h => d3 (t3.mp h)), if_neg (fun h => hnw h.1), ej]
    subst hAB
    rw [Nat.max_self, I32_add]
    exact one A (n + i) a1 l1 (fun h => Int.add_nonneg (Int.le_trans (by decide) (a5 h)) (Int.le_trans (by decide) (c5 h))) (fun h => absurd h d1)
set_option maxHeartbeats 1000000 in
set_option maxRecDepth 100000 in
theorem clash_dec : ∀ a b : Fin 5, ∃ r s, f_X7_clash (nI a.val) (nI b.val) = some r ∧ f_X7_clash (nI b.val) (nI a.val) = some s ∧ ((r = 0 ∧ s = 0) ↔ mts a.val b.val) := by
  intro a b
  have : ∀ a b : Fin 5, (f_X7_clash (nI a.val) (nI b.val)).isSome ∧ (f_X7_clash (nI b.val) (nI a.val)).isSome ∧ (((f_X7_clash (nI a.val) (nI b.val)) = some 0 ∧ (f_X7_clash (nI b.val) (nI a.val)) = some 0) ↔ mts a.val b.val) := by decide +kernel
  obtain ⟨h1, h2, h3⟩ := this a b
  obtain ⟨r, hr⟩ := Option.isSome_iff_exists.mp h1
  obtain ⟨s, hs⟩ := Option.isSome_iff_exists.mp h2
  refine ⟨r, s, hr, hs, ?_⟩
  rw [← h3, hr, hs]
  constructor
  · intro ⟨x, y⟩; rw [x, y]; exact ⟨rfl, rfl⟩
  · intro ⟨x, y⟩; exact ⟨Option.some.inj x, Option.some.inj y⟩
set_option maxHeartbeats 1000000 in
set_option maxRecDepth 100000 in
theorem clash_eq {a b : Nat} (ha : a ≤ 4) (hb : b ≤ 4) : ∃ r s, f_X7_clash (nI a) (nI b) = some r ∧ f_X7_clash (nI b) (nI a) = some s ∧ ((r = 0 ∧ s = 0) ↔ mts a b) := clash_dec ⟨a, by omega⟩ ⟨b, by omega⟩
def grw (A B : Nat → Rat) (k1 k2 : Nat) : Nat → Rat := if mts (kdK k1) (kdK k2) then mulC k1 (A k1) k2 (B k2) else fun _ => 0
def bad2 (A B : Nat → Rat) (k1 k2 : Nat) : Prop := A k1 ≠ 0 ∧ B k2 ≠ 0 ∧ ¬ mts (kdK k1) (kdK k2)
set_option maxHeartbeats 1000000 in
set_option maxRecDepth 100000 in
theorem grw_facts {A B : Nat → Rat} (hA : ∀ k, A k ≠ 0 → smK k ∧ smV (A k)) (hB : ∀ k, B k ≠ 0 → smK k ∧ smV (B k)) (k1 k2 : Nat) : supV (grw A B k1 k2) ∧ scl 7200 144000000 (grw A B k1 k2) := by
  have z : supV (fun _ => (0 : Rat)) ∧ scl 7200 144000000 (fun _ => (0 : Rat)) := ⟨supV_0, scl_mono (scl_0 7200) (by omega)⟩
  unfold grw
  split
  · rename_i hm
    by_cases c : A k1 = 0
    · rw [c, mulC_0l]; exact z
    · by_cases d : B k2 = 0
      · rw [d, mulC_0r]; exact z
      · exact mulC_facts (hA _ c).1 (hB _ d).1 hm (hA _ c).2 (hB _ d).2
  · exact z
section MT
set_option maxHeartbeats 1000000 in
set_option maxRecDepth 100000 in
theorem mt_in {A B : Nat → Rat} (hA : ∀ k, A k ≠ 0 → smK k ∧ smV (A k)) (hB : ∀ k, B k ≠ 0 → smK k ∧ smV (B k)) (oA : okF A) (oB : okF B) (a b : Nat) (ha : a < 8) (hb : b < 8) (kb : MdS → Int32 → Int32 → Int32 → Int32 → Int32 → Option (Int32 × MdS)) (x1 : Int32) (c : Nat) (hc : c < 1150) (F0 : Nat → Rat) : ∀ (d fu e : Nat) (z : MdS) (v : Int32) (M : Nat), e + d = 1150 → d < fu → (v = 0 ∨ v = 1) → rRep z 8 (addF F0 (sumL (pre kc e) (grw A B (kc c)))) → scl 7200 M (addF F0 (sumL (pre kc e) (grw A B (kc c)))) → M + d * 144000000 ≤ 199000000000000 → rRep z a A → rRep z b B →
    ∃ z' v', f_X7_times_114 kb fu z x1 (nI a) (nI b) v (nI c) (nI e) = kb z' x1 (nI a) (nI b) v' (nI (c + 1)) ∧ rRep z' 8 (addF F0 (sumL (pre kc 1150) (grw A B (kc c)))) ∧ scl 7200 (M + d * 144000000) (addF F0 (sumL (pre kc 1150) (grw A B (kc c)))) ∧ mSame z z' ∧ mRow z z' 8 ∧ gM_isFull z' = gM_isFull z ∧ (v' = 0 ∨ v' = 1) ∧ (v' = 0 ↔ v = 0 ∧ ∀ l, e ≤ l → l < 1150 → ¬ bad2 A B (kc c) (kc l)) := by
  intro d
  induction d with
  | zero =>
    intro fu e z v M he hf hv R hs hM Ra Rb
    obtain ⟨fu, rfl⟩ : ∃ f, fu = f + 1 := ⟨fu - 1, by omega⟩
    rw [f_X7_times_114, if_pos (show (1150 : Int32) ≤ nI e from (qI_le (n := 1150) (by omega) (by omega)).mpr (by omega))]
    unfold f_X7_times_295
    rw [nI_add1]
    have : e = 1150 := by omega
    subst this
    exact ⟨z, v, rfl, R, scl_mono hs (by omega), mSame.rfl' z, mRow.rfl' z 8, rfl, hv, ⟨fun h => ⟨h, fun l h1 h2 => by omega⟩, fun h => h.1⟩⟩
  | succ d ih =>
    intro fu e z v M he hf hv R hs hM Ra Rb
    obtain ⟨fu, rfl⟩ : ∃ f, fu = f + 1 := ⟨fu - 1, by omega⟩
    have he' : e < 1150 := by omega
    have e1 : inb (nI (1150 * a + c)) nUD = true := inU (by omega)
    have e2 : (nI (1150 * a + c)).toNatClampNeg = 1150 * a + c := nI_nat (by omega)
    have e3 : inb (nI (1150 * b + e)) nUD = true := inU (by omega)
    have e4 : (nI (1150 * b + e)).toNatClampNeg = 1150 * b + e := nI_nat (by omega)
    rw [f_X7_times_114, if_neg (show ¬ (1150 : Int32) ≤ nI e from fun h => by have := (qI_le (n := 1150) (by omega) (by omega)).mp h; omega), row_eq, row_eq, mod25 hc, mod25 he', div25 hc, div25 he']
    simp only [e1, e2, e3, e4, if_true, Option.bind_some]
    rw [(Ra c hc).1, (Ra c hc).2, (Rb e he').1, (Rb e he').2]
    by_cases cA : A (kc c) = 0
    ·
      rw [if_pos ((num0 _ (oA _).1).mpr cA)]
      unfold f_X7_times_295
      rw [nI_add1]
      have hz : ∀ j, sumL (pre kc j) (grw A B (kc c)) = fun _ => 0 := by
        intro j
        induction j with
        | zero => rfl
        | succ j ihj =>
          rw [sumL_pre_succ, ihj, addF_0l]
          unfold grw
          rw [cA, mulC_0l, ite_self]
      rw [hz e] at R hs
      refine ⟨z, v, rfl, by rw [hz]; exact R, by rw [hz]; exact scl_mono hs (by omega), mSame.rfl' z, mRow.rfl' z 8, rfl, hv, ⟨fun h => ⟨h, fun l _ _ h9 => h9.1 cA⟩, fun h => h.1⟩⟩
    rw [if_neg (fun h => cA ((num0 _ (oA _).1).mp h))]
    have gf := grw_facts hA hB (kc c) (kc e)
    have hstep : addF (addF F0 (sumL (pre kc e) (grw A B (kc c)))) (grw A B (kc c) (kc e)) = addF F0 (sumL (pre kc (e + 1)) (grw A B (kc c))) := by
      rw [sumL_pre_succ, addF_assoc]
    have hsc : scl 7200 (M + 144000000) (addF F0 (sumL (pre kc (e + 1)) (grw A B (kc c)))) := by
      rw [← hstep]; exact scl_add (by omega) hs gf.2
    unfold f_X7_times_207 f_X7_times_289
    rw [nI_add1]
    have next : ∀ (z1 : MdS) (v1 : Int32), (v1 = 0 ∨ v1 = 1) → rRep z1 8 (addF (addF F0 (sumL (pre kc e) (grw A B (kc c)))) (grw A B (kc c) (kc e))) → mSame z z1 → mRow z z1 8 → gM_isFull z1 = gM_isFull z → (v1 = 0 ↔ v = 0 ∧ ¬ bad2 A B (kc c) (kc e)) →
        ∃ z' v', f_X7_times_114 kb fu z1 x1 (nI a) (nI b) v1 (nI c) (nI (e + 1)) = kb z' x1 (nI a) (nI b) v' (nI (c + 1)) ∧ rRep z' 8 (addF F0 (sumL (pre kc 1150) (grw A B (kc c)))) ∧ scl 7200 (M + (d + 1) * 144000000) (addF F0 (sumL (pre kc 1150) (grw A B (kc c)))) ∧ mSame z z' ∧ mRow z z' 8 ∧ gM_isFull z' = gM_isFull z ∧ (v' = 0 ∨ v' = 1) ∧ (v' = 0 ↔ v = 0 ∧ ∀ l, e ≤ l → l < 1150 → ¬ bad2 A B (kc c) (kc l)) := by
      intro z1 v1 hv1 r1 r2 r3 r4 r5
      rw [hstep] at r1
      obtain ⟨z', v', p1, p2, p3, p4, p5, p6, p7, p8⟩ := ih fu (e + 1) z1 v1 (M + 144000000) (by omega) (by omega) hv1 r1 hsc (by omega) (Ra.keep r3 (by omega)) (Rb.keep r3 (by omega))
      refine ⟨z', v', p1, p2, scl_cast p3 (by omega), r2.trans p4, r3.trans p5, p6.trans r4, p7, p8.trans ?_⟩
      rw [r5]
      constructor
      · intro ⟨⟨x, y⟩, w⟩
        refine ⟨x, fun l hl hl' => ?_⟩
        by_cases e : l = e
        · subst e; exact y
        · exact w l (by omega) hl'
      · intro ⟨x, w⟩
        exact ⟨⟨x, w e (Nat.le_refl _) he'⟩, fun l hl hl' => w l (by omega) hl'⟩
    by_cases cB : B (kc e) = 0
    · rw [if_neg (fun h => h ((num0 _ (oB _).1).mpr cB))]
      have hg0 : grw A B (kc c) (kc e) = fun _ => 0 := by unfold grw; rw [cB, mulC_0r, ite_self]
      exact next z v hv (by rw [hg0, addF_0]; exact R) (mSame.rfl' z) (mRow.rfl' z 8) rfl ⟨fun h => ⟨h, fun h9 => h9.2.1 cB⟩, fun h => h.1⟩
    rw [if_pos (fun h => cB ((num0 _ (oB _).1).mp h)), (kindOf_eq ⟨c / 25, by omega⟩).1, (kindOf_eq ⟨e / 25, by omega⟩).1]
    simp only [Option.bind_some]
    obtain ⟨sA, vA⟩ := hA _ cA
    obtain ⟨sB, vB⟩ := hB _ cB
    have kA := (smK_facts sA).1
    have kB := (smK_facts sB).1
    have dA : kdK (kc c) = kdF (c / 25) := kc_kd hc
    have dB : kdK (kc e) = kdF (e / 25) := kc_kd he'
    rw [← dA, ← dB]
    obtain ⟨r, s, q1, q2, q3⟩ := clash_eq kA kB
    rw [q1, q2]
    simp only [Option.bind_some]
    have badcase : ¬ mts (kdK (kc c)) (kdK (kc e)) → ∃ z' v', f_X7_times_114 kb fu z x1 (nI a) (nI b) 1 (nI c) (nI (e + 1)) = kb z' x1 (nI a) (nI b) v' (nI (c + 1)) ∧ rRep z' 8 (addF F0 (sumL (pre kc 1150) (grw A B (kc c)))) ∧ scl 7200 (M + (d + 1) * 144000000) (addF F0 (sumL (pre kc 1150) (grw A B (kc c)))) ∧ mSame z z' ∧ mRow z z' 8 ∧ gM_isFull z' = gM_isFull z ∧ (v' = 0 ∨ v' = 1) ∧ (v' = 0 ↔ v = 0 ∧ ∀ l, e ≤ l → l < 1150 → ¬ bad2 A B (kc c) (kc l)) := by
      intro hn
      have hg0 : grw A B (kc c) (kc e) = fun _ => 0 := by unfold grw; rw [if_neg hn]
      exact next z 1 (Or.inr rfl) (by rw [hg0, addF_0]; exact R) (mSame.rfl' z) (mRow.rfl' z 8) rfl ⟨fun h => absurd h (by decide), fun h => absurd ⟨cA, cB, hn⟩ h.2⟩
    by_cases cr : r = 0
    · rw [if_neg (fun h => h cr)]
      by_cases cs : s = 0
      · rw [if_pos cs]
        have hm := q3.mp ⟨cr, cs⟩
        have hpw : nI (c % 25) + nI (e % 25) - (24 : Int32) = I32 (pwK (kc c) + pwK (kc e)) := by
          have t : (24 : Int32) = I32 24 := rfl
          rw [kc_pw hc, kc_pw he', t, ← I32_nI, ← I32_nI, I32_add, I32_sub]; congr 1; omega
        rw [hpw, I64_mul, I64_mul]
        obtain ⟨z1, m1, m2, m3, m4, m5⟩ := multiply_eq R hs (by omega) (f := c / 25) (g := e / 25) (k1 := kc c) (k2 := kc e) (by omega) (by omega) dA (kc_ag hc) dB (kc_ag he') sA sB hm vA vB
        rw [m1, Option.bind_some]
        have hg1 : grw A B (kc c) (kc e) = mulC (kc c) (A (kc c)) (kc e) (B (kc e)) := by unfold grw; rw [if_pos hm]
        exact next z1 v hv (by rw [hg1]; exact m2) m3 m4 m5 ⟨fun h => ⟨h, fun h9 => h9.2.2 hm⟩, fun h => h.1⟩
      · rw [if_neg cs]
        exact badcase (fun hm => cs (q3.mpr hm).2)
    · rw [if_pos cr]
      exact badcase (fun hm => cr (q3.mpr hm).1)
set_option maxHeartbeats 1000000 in
set_option maxRecDepth 100000 in
theorem mt_out {A B : Nat → Rat} (hA : ∀ k, A k ≠ 0 → smK k ∧ smV (A k)) (hB : ∀ k, B k ≠ 0 → smK k ∧ smV (B k)) (oA : okF A) (oB : okF B) (a b : Nat) (ha : a < 8) (hb : b < 8) (to : Nat) : ∀ (d fu c : Nat) (z : MdS) (v : Int32), c + d = 1150 → d < fu → (v = 0 ∨ v = 1) → rRep z 8 (sumL (pre kc c) (fun k1 => sumL (pre kc 1150) (grw A B k1))) → scl 7200 (c * 165600000000) (sumL (pre kc c) (fun k1 => sumL (pre kc 1150) (grw A B k1))) → rRep z a A → rRep z b B →
    ∃ (z' : MdS) (v' : Int32), f_X7_times_103 fu z (nI to) (nI a) (nI b) v (nI c) = (if v' = 0 then (f_X7_finish z' (nI to)).bind (fun r => some (r.1, r.2)) else some ((-5 : Int32), z')) ∧ rRep z' 8 (sumL (pre kc 1150) (fun k1 => sumL (pre kc 1150) (grw A B k1))) ∧ mSame z z' ∧ mRow z z' 8 ∧ gM_isFull z' = gM_isFull z ∧ (v' = 0 ↔ v = 0 ∧ ∀ p, c ≤ p → p < 1150 → ∀ l, l < 1150 → ¬ bad2 A B (kc p) (kc l)) := by
  intro d
  induction d with
  | zero =>
    intro fu c z v hc hf hv R hs Ra Rb
    obtain ⟨fu, rfl⟩ : ∃ f, fu = f + 1 := ⟨fu - 1, by omega⟩
    rw [f_X7_times_103, if_pos (show (1150 : Int32) ≤ nI c from (qI_le (n := 1150) (by omega) (by omega)).mpr (by omega))]
    have : c = 1150 := by omega
    subst this
    exact ⟨z, v, rfl, R, mSame.rfl' z, mRow.rfl' z 8, rfl, ⟨fun h => ⟨h, fun p h1 h2 => by omega⟩, fun h => h.1⟩⟩
  | succ d ih =>
    intro fu c z v hc hf hv R hs Ra Rb
    obtain ⟨fu, rfl⟩ : ∃ f, fu = f + 1 := ⟨fu - 1, by omega⟩
    rw [f_X7_times_103, if_neg (show ¬ (1150 : Int32) ≤ nI c from fun h => by have := (qI_le (n := 1150) (by omega) (by omega)).mp h; omega)]
    have h0 : ∀ X : Nat → Rat, addF X (sumL (pre kc 0) (grw A B (kc c))) = X := fun X => addF_0 X
    obtain ⟨z1, v1, q1, q2, q3, q4, q5, q6, q7, q8⟩ := mt_in hA hB oA oB a b ha hb (fun zM_ x1_ x2_ x3_ x5_ x6_ => f_X7_times_103 fu zM_ x1_ x2_ x3_ x5_ x6_) (nI to) c (by omega) (sumL (pre kc c) (fun k1 => sumL (pre kc 1150) (grw A B k1))) 1150 fuel 0 z v (c * 165600000000) (by omega) (by rw [fuel_eq]; omega) hv (by rw [h0]; exact R) (by rw [h0]; exact hs) (by omega) Ra Rb
    have q1' : f_X7_times_114 (fun zM_ x1_ x2_ x3_ x5_ x6_ => f_X7_times_103 fu zM_ x1_ x2_ x3_ x5_ x6_) fuel z (nI to) (nI a) (nI b) v (nI c) 0 = _ := q1
    rw [q1']
    have hx : addF (sumL (pre kc c) (fun k1 => sumL (pre kc 1150) (grw A B k1))) (sumL (pre kc 1150) (grw A B (kc c))) = sumL (pre kc (c + 1)) (fun k1 => sumL (pre kc 1150) (grw A B k1)) := (sumL_pre_succ kc c (fun k1 => sumL (pre kc 1150) (grw A B k1))).symm
    rw [hx] at q2 q3
    obtain ⟨z', v', p1, p2, p3, p4, p5, p6⟩ := ih fu (c + 1) z1 v1 (by omega) (by omega) q7 q2 (scl_cast q3 (by omega)) (Ra.keep q5 (by omega)) (Rb.keep q5 (by omega))
    refine ⟨z', v', p1, p2, q4.trans p3, q5.trans p4, p5.trans q6, p6.trans ?_⟩
    rw [q8]
    constructor
    · intro ⟨⟨x, y⟩, w⟩
      refine ⟨x, fun p hp hp' l hl => ?_⟩
      by_cases e : p = c
      · subst e; exact y l (by omega) hl
      · exact w p (by omega) hp' l hl
    · intro ⟨x, w⟩
      exact ⟨⟨x, fun l _ hl => w c (Nat.le_refl _) (by omega) l hl⟩, fun p hp hp' => w p (by omega) hp'⟩
end MT
set_option maxHeartbeats 1000000 in
set_option maxRecDepth 100000 in
theorem supV_sumL {l : List Nat} {f : Nat → Nat → Rat} (h : ∀ x, supV (f x)) : supV (sumL l f) := by
  induction l with
  | nil => exact supV_0
  | cons x l ih => rw [sumL_cons]; exact supV_add (h x) ih
set_option maxHeartbeats 1000000 in
set_option maxRecDepth 100000 in
theorem times_both {zD : DeskS} {zM : MdS} (h : Sim zD zM) (a1 a2 a3 : Int32) : opR (f_X6_times zD a1 a2 a3) (f_X7_times zM a1 a2 a3) True True 2 := by
  obtain ⟨r1, e1, e2, e3, e4⟩ := isSlot6_eq a1
  obtain ⟨r2, f1, f2, f3, f4⟩ := isSlot6_eq a2
  obtain ⟨r3, g1, g2, g3, g4⟩ := isSlot6_eq a3
  have no : opR (some ((1 : Int32), (0 : Int32), zD)) (f_X7_times_25 zM a1 a2 a3) True True 2 :=
    ⟨1, 0, zD, 0, uM_refusal zM 1, rfl, rfl, h.refusal 1, Or.inr (Or.inl ⟨rfl, rfl, trivial⟩)⟩
  have no2 : opR (some ((2 : Int32), (0 : Int32), zD)) (f_X7_times_54 zM a1 a2 a3) True True 2 :=
    ⟨2, 0, zD, 0, uM_refusal zM 2, rfl, rfl, h.refusal 2, Or.inr (Or.inr ⟨rfl, rfl, trivial⟩)⟩
  unfold f_X6_times f_X7_times
  rw [e1, e2, f1, f2, g1, g2]
  simp only [Option.bind_some]
  rcases e3 with rfl | rfl
  · rw [if_pos rfl, if_pos rfl]; exact no
  rw [if_neg (show ¬ (1 : Int32) = 0 by decide), if_neg (show ¬ (1 : Int32) = 0 by decide)]
  rcases f3 with rfl | rfl
  · rw [if_pos rfl, if_pos rfl]; exact no
  rw [if_neg (show ¬ (1 : Int32) = 0 by decide), if_neg (show ¬ (1 : Int32) = 0 by decide)]
  rcases g3 with rfl | rfl
  · rw [if_neg (by simp), if_pos rfl]; exact no
  rw [if_pos (show ¬ (1 : Int32) = 0 by decide), if_neg (show ¬ (1 : Int32) = 0 by decide)]
  obtain ⟨to, hto, rfl⟩ := e4.mp rfl
  obtain ⟨a, ha, rfl⟩ := f4.mp rfl
  obtain ⟨b, hb, rfl⟩ := g4.mp rfl
  obtain ⟨na, Ka, A, Ra, Ma, oa, hna, hva⟩ := h.1 a ha
  obtain ⟨nb, Kb, B, Rb, Mb, ob, hnb, hvb⟩ := h.1 b hb
  have i1 : inb (nI a) 8 = true := (inb_nI (by omega)).mpr ha
  have i2 : inb (nI b) 8 = true := (inb_nI (by omega)).mpr hb
  have j1 : (nI a).toNatClampNeg = a := nI_nat (by omega)
  have j2 : (nI b).toNatClampNeg = b := nI_nat (by omega)
  simp only [i1, i2, j1, j2, if_true]
  unfold f_X7_times_26
  rw [if_pos (show ¬ (1 : Int32) = 0 by decide)]
  obtain ⟨r, s1, s2, s3, s4⟩ := small_both ha Ra Ma hna hva
  obtain ⟨r', t1, t2, t3, t4⟩ := small_both hb Rb Mb hnb hvb
  rw [s1, s2, t1, t2]
  simp only [Option.bind_some]
  rcases s3 with rfl | rfl
  · rw [if_pos rfl, if_pos rfl]; exact no2
  rw [if_neg (show ¬ (1 : Int32) = 0 by decide), if_neg (show ¬ (1 : Int32) = 0 by decide)]
  rcases t3 with rfl | rfl
  · rw [if_neg (by simp), if_neg (by simp)]; exact no2
  rw [if_pos (show ¬ (1 : Int32) = 0 by decide), if_pos (show ¬ (1 : Int32) = 0 by decide)]
  have hA : ∀ k, A k ≠ 0 → smK k ∧ smV (A k) := fun k hk => ⟨⟨(hva k hk).1, (s4 rfl k hk).2.2.1, (s4 rfl k hk).2.2.2⟩, (s4 rfl k hk).1, (s4 rfl k hk).2.1⟩
  have hB : ∀ k, B k ≠ 0 → smK k ∧ smV (B k) := fun k hk => ⟨⟨(hvb k hk).1, (t4 rfl k hk).2.2.1, (t4 rfl k hk).2.2.2⟩, (t4 rfl k hk).1, (t4 rfl k hk).2.1⟩
  have vA : ∀ k, A k ≠ 0 → vk k := fun k hk => (hva k hk).1
  have vB : ∀ k, B k ≠ 0 → vk k := fun k hk => (hvb k hk).1
  unfold f_X7_times_59
  rw [refused0, Option.bind_some, if_pos rfl]
  have Ma0 : rRep (uM_refusal zM 0) a A := Ma
  have Mb0 : rRep (uM_refusal zM 0) b B := Mb
  rw [termsOf_eq _ a (by omega) A Ma0 (okF_of hva), termsOf_eq _ b (by omega) B Mb0 (okF_of hvb), cnt_size Ra vA, cnt_size Rb vB]
  unfold f_X4_size
  simp only [Option.bind_some]
  rw [Ra.1, Rb.1, nI_mul]
  have hnm : na * nb ≤ 40 * 40 := Nat.mul_le_mul hna hnb
  have tc : nI (na * nb) ≤ 100 ↔ na * nb ≤ 100 := qI_le (m := 100) (by omega) (by omega)
  by_cases c : na * nb ≤ 100
  case neg =>
    rw [if_neg (fun h => c (tc.mp h)), if_neg (fun h => c (tc.mp h))]
    exact ⟨0, -4, zD, -4, uM_refusal zM 0, rfl, rfl, h.refusal 0, Or.inl ⟨rfl, rfl, rfl⟩⟩
  rw [if_pos (tc.mpr c), if_pos (tc.mpr c)]
  have kA : ∀ i, i < na → smK (Ka i) ∧ smV (A (Ka i)) := fun i hi => hA _ (Ra.2.2.2.2.2.1 i hi).1
  have kB : ∀ i, i < nb → smK (Kb i) ∧ smV (B (Kb i)) := fun i hi => hB _ (Rb.2.2.2.2.2.1 i hi).1
  obtain ⟨rt, u1, u2, u3⟩ := told_out Ra Rb hna hnb (fun i hi => (smK_facts (kA i hi).1).1) (fun i hi => (smK_facts (kB i hi).1).1) na fuel 0 (by omega) (by rw [fuel_eq]; omega) (fun p hp => by omega)
  have u1' : f_X2_canBeTold 40 40 (gD_slots zD a) (gD_slots zD b) = some rt := u1
  rw [u1', Option.bind_some]
  obtain ⟨z0, w1, w2, w3, w4, w5, -, -⟩ := empty_eq (uM_isFull (uM_refusal zM 0) 0) 8 (by omega)
  have w1' : f_X7_empty (uM_isFull (uM_refusal zM 0) 0) 8 = some z0 := w1
  rw [w1', Option.bind_some]
  have Ma1 : rRep (uM_isFull (uM_refusal zM 0) 0) a A := Ma
  have Mb1 : rRep (uM_isFull (uM_refusal zM 0) 0) b B := Mb
  obtain ⟨z1, v, x1, x2, x3, x4, x5, x6⟩ := mt_out hA hB (okF_of hva) (okF_of hvb) a b ha hb to 1150 fuel 0 z0 0 (by omega) (by rw [fuel_eq]; omega) (Or.inl rfl) w2 (scl_mono (scl_0 7200) (by omega)) (Ma1.keep w4 (by omega)) (Mb1.keep w4 (by omega))
  have x1' : f_X7_times_103 fuel z0 (nI to) (nI a) (nI b) 0 0 = _ := x1
  rw [x1']
  have hms0 : mSame (uM_refusal zM 0) z1 := ((show mSame (uM_refusal zM 0) (uM_isFull (uM_refusal zM 0) 0) from ⟨rfl, rfl, rfl, rfl, rfl, rfl, rfl, rfl⟩).trans w3).trans x3
  have hsl : ∀ s, s < 8 → slR (gD_slots zD s) z1 s := by
    intro s hs
    have s0 : slR (gD_slots zD s) (uM_isFull (uM_refusal zM 0) 0) s := h.1 s hs
    exact (s0.keep w4 (by omega)).keep x4 (by omega)
  have hcl : rt = 1 ↔ v = 0 := by
    rw [u3, x6]
    constructor
    · intro hh
      refine ⟨rfl, fun p _ hp l hl ⟨b1, b2, b3⟩ => ?_⟩
      obtain ⟨i, hi, ei⟩ := Ra.2.2.2.2.2.2 _ b1
      obtain ⟨j, hj, ej⟩ := Rb.2.2.2.2.2.2 _ b2
      have := hh i hi j hj
      rw [ei, ej] at this
      exact b3 this
    · intro ⟨_, hh⟩ i hi j hj
      apply Classical.byContradiction
      intro hn
      have ai := (Ra.2.2.2.2.2.1 i hi).1
      have bj := (Rb.2.2.2.2.2.1 j hj).1
      obtain ⟨p, hp, ep⟩ := vA _ ai
      obtain ⟨l, hl, el⟩ := vB _ bj
      apply hh p (by omega) hp l hl
      unfold bad2
      rw [ep, el]
      exact ⟨ai, bj, hn⟩
  by_cases cv : v = 0
  · have hrt := hcl.mpr cv
    subst hrt
    rw [if_pos (show ¬ (1 : Int32) = 0 by decide), if_pos cv]
    obtain ⟨w0, c1, c2, c3⟩ := sRep_clear (gD_work zD) 200
    rw [c1, Option.bind_some]
    have hmts := u3.mp rfl
    obtain ⟨ws, n1, K1, d1, d2, d3, d4, d5⟩ := prod_out Ra Rb hna hnb kA kB hmts c na fuel 0 0 0 w0 _ (by omega) (by rw [fuel_eq]; omega) c2 (scl_mono (scl_0 7200) (by omega)) (by omega)
    have d1' : f_X2_putProduct 200 40 40 (gD_slots (uD_work zD w0) a) (gD_slots (uD_work zD w0) b) (gD_work (uD_work zD w0)) = some ws := d1
    rw [d1', Option.bind_some]
    have hno := (x6.mp cv).2
    have hsum : sumL (pre Ka na) (rowC A B Kb nb) = sumL (pre kc 1150) (fun k1 => sumL (pre kc 1150) (grw A B k1)) := by
      have hrow : ∀ k1, rowC A B Kb nb k1 = sumL (pre kc 1150) (fun k2 => mulC k1 (A k1) k2 (B k2)) := fun k1 =>
        sumL_cells Rb vB _ (fun k hk => by rw [hk, mulC_0r])
      rw [sumL_cells Ra vA (rowC A B Kb nb) (fun k hk => by
        unfold rowC
        rw [hk]
        have : ∀ l, sumL l (fun k2 => mulC k 0 k2 (B k2)) = fun _ => 0 := by
          intro l
          induction l with
          | nil => rfl
          | cons y l ih => rw [sumL_cons, ih, mulC_0l, addF_0]
        exact this _)]
      refine sumL_congr _ _ _ (fun k1 hk1 => ?_)
      rw [hrow]
      refine sumL_congr _ _ _ (fun k2 hk2 => ?_)
      unfold grw
      by_cases hm : mts (kdK k1) (kdK k2)
      · rw [if_pos hm]
      · rw [if_neg hm]
        unfold pre at hk1 hk2
        obtain ⟨p, hp, ep⟩ := List.mem_map.mp hk1
        obtain ⟨l, hl, el⟩ := List.mem_map.mp hk2
        have hp := List.mem_range.mp hp
        have hl := List.mem_range.mp hl
        by_cases y1 : A k1 = 0
        · rw [y1, mulC_0l]
        · by_cases y2 : B k2 = 0
          · rw [y2, mulC_0r]
          · exfalso
            apply hno p (by omega) hp l hl
            unfold bad2
            rw [ep, el]
            exact ⟨y1, y2, hm⟩
    rw [hsum] at d2 d3
    have hsup : supV (sumL (pre kc 1150) (fun k1 => sumL (pre kc 1150) (grw A B k1))) := supV_sumL (fun k1 => supV_sumL (fun k2 => (grw_facts hA hB k1 k2).1))
    have hb2 : na * (nb * 144000000) ≤ 40 * (40 * 144000000) := Nat.mul_le_mul hna (Nat.mul_le_mul_right _ hnb)
    obtain ⟨ans, zD', zM', y1, y2, y3, y4, y5⟩ := settle_both (zD := uD_work (uD_work zD w0) ws) (zM := z1) (to := to) hto hsl d2 d5 (by show gS_ov ws = 0; rw [d4, c3]) x2 (scl_okF (by omega) d3 (by omega) (by decide)) (fun k hk => (vk_wfk.mp (hsup k hk)).1) ⟨fun _ => hsup, fun _ => by rw [x5, w5]; rfl⟩
    rw [y1, y2, Option.bind_some, Option.bind_some]
    exact ⟨0, ans, zD', ans, zM', rfl, rfl, (h.refusal 0).keep y4 (hms0.trans y5) y3, Or.inl ⟨rfl, (hms0.trans y5).1, rfl⟩⟩
  · have hrt : ¬ rt = 1 := fun h => cv (hcl.mp h)
    have hrt0 : rt = 0 := by rcases u2 with h | h; · exact h
                             · exact absurd h hrt
    subst hrt0
    rw [if_neg (by simp), if_neg cv]
    exact ⟨0, -5, zD, -5, z1, rfl, rfl, (h.refusal 0).keep ⟨rfl, rfl, rfl⟩ hms0 hsl, Or.inl ⟨rfl, hms0.1, rfl⟩⟩
