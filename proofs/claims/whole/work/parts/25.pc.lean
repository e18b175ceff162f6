set_option maxHeartbeats 1000000 in
set_option maxRecDepth 100000 in
theorem has_in (nS : Nat) {z : SumS} {n i : Nat} (hn : gS_size z = nI n) (hN : n ≤ 200) (hi : i < n) : f_X4_has nS z (nI i) = some 1 := by
  unfold f_X4_has
  rw [hn, if_neg (show ¬ nI i < 0 from fun h => by have := (qI_lt (m := 0) (by omega) (by omega)).mp h; omega), if_neg (fun h => by have := (qI_le (by omega) (by omega)).mp h; omega)]
set_option maxHeartbeats 1000000 in
set_option maxRecDepth 100000 in
theorem topAt_in {nS : Nat} {z : SumS} {n i : Nat} (hn : gS_size z = nI n) (hN : n ≤ nS) (hS : nS ≤ 200) (hi : i < n) : f_X4_topAt nS z (nI i) = some (gS_tops z i) := by
  unfold f_X4_topAt
  rw [has_in nS hn (by omega) hi, Option.bind_some, if_neg (by decide), if_pos ((inb_nI (by omega)).mpr (by omega)), nI_nat (by omega)]
set_option maxHeartbeats 1000000 in
set_option maxRecDepth 100000 in
theorem bottomAt_in {nS : Nat} {z : SumS} {n i : Nat} (hn : gS_size z = nI n) (hN : n ≤ nS) (hS : nS ≤ 200) (hi : i < n) : f_X4_bottomAt nS z (nI i) = some (gS_bots z i) := by
  unfold f_X4_bottomAt
  rw [has_in nS hn (by omega) hi, Option.bind_some, if_neg (by decide), if_pos ((inb_nI (by omega)).mpr (by omega)), nI_nat (by omega)]
set_option maxHeartbeats 1000000 in
set_option maxRecDepth 100000 in
theorem kindAt_in {nS : Nat} {z : SumS} {n i : Nat} (hn : gS_size z = nI n) (hN : n ≤ nS) (hS : nS ≤ 200) (hi : i < n) : f_X4_kindAt nS z (nI i) = some ((gS_keys z i) >>> ((11 : Int32) &&& 31)) := by
  unfold f_X4_kindAt
  rw [has_in nS hn (by omega) hi, Option.bind_some, if_neg (by decide), if_pos ((inb_nI (by omega)).mpr (by omega)), nI_nat (by omega)]
set_option maxHeartbeats 1000000 in
set_option maxRecDepth 100000 in
theorem argAt_in {nS : Nat} {z : SumS} {n i : Nat} (hn : gS_size z = nI n) (hN : n ≤ nS) (hS : nS ≤ 200) (hi : i < n) : f_X4_argumentAt nS z (nI i) = some ((((gS_keys z i) >>> ((6 : Int32) &&& 31)) &&& (31 : Int32)) - (16 : Int32)) := by
  unfold f_X4_argumentAt
  rw [has_in nS hn (by omega) hi, Option.bind_some, if_neg (by decide), if_pos ((inb_nI (by omega)).mpr (by omega)), nI_nat (by omega)]
set_option maxHeartbeats 1000000 in
set_option maxRecDepth 100000 in
theorem powAt_in {nS : Nat} {z : SumS} {n i : Nat} (hn : gS_size z = nI n) (hN : n ≤ nS) (hS : nS ≤ 200) (hi : i < n) : f_X4_powerAt nS z (nI i) = some ((31 : Int32) - ((gS_keys z i) &&& (63 : Int32))) := by
  unfold f_X4_powerAt
  rw [has_in nS hn (by omega) hi, Option.bind_some, if_neg (by decide), if_pos ((inb_nI (by omega)).mpr (by omega)), nI_nat (by omega)]
section Acc
variable {nS : Nat} {z : SumS} {n : Nat} {K : Nat → Nat} {F : Nat → Rat}
set_option maxHeartbeats 1000000 in
set_option maxRecDepth 100000 in
theorem topAt_eq (R : sRep z n K F) (hN : n ≤ nS) (hS : nS ≤ 200) {i : Nat} (hi : i < n) : f_X4_topAt nS z (nI i) = some (I64 (F (K i)).num) := by
  rw [topAt_in R.1 hN hS hi, R.2.2.1 i hi]
set_option maxHeartbeats 1000000 in
set_option maxRecDepth 100000 in
theorem bottomAt_eq (R : sRep z n K F) (hN : n ≤ nS) (hS : nS ≤ 200) {i : Nat} (hi : i < n) : f_X4_bottomAt nS z (nI i) = some (I64 ((F (K i)).den : Int)) := by
  rw [bottomAt_in R.1 hN hS hi, R.2.2.2.1 i hi]
set_option maxHeartbeats 1000000 in
set_option maxRecDepth 100000 in
theorem kindAt_eq (R : sRep z n K F) (hN : n ≤ nS) (hS : nS ≤ 200) {i : Nat} (hi : i < n) : f_X4_kindAt nS z (nI i) = some (nI (kdK (K i))) := by
  rw [kindAt_in R.1 hN hS hi, R.2.1 i hi, (dec_eq (R.2.2.2.2.2.1 i hi).2).1]
set_option maxHeartbeats 1000000 in
set_option maxRecDepth 100000 in
theorem argAt_eq (R : sRep z n K F) (hN : n ≤ nS) (hS : nS ≤ 200) {i : Nat} (hi : i < n) : f_X4_argumentAt nS z (nI i) = some (I32 (agK (K i))) := by
  rw [argAt_in R.1 hN hS hi, R.2.1 i hi, (dec_eq (R.2.2.2.2.2.1 i hi).2).2.1]
set_option maxHeartbeats 1000000 in
set_option maxRecDepth 100000 in
theorem powAt_eq (R : sRep z n K F) (hN : n ≤ nS) (hS : nS ≤ 200) {i : Nat} (hi : i < n) : f_X4_powerAt nS z (nI i) = some (I32 (pwK (K i))) := by
  rw [powAt_in R.1 hN hS hi, R.2.1 i hi, (dec_eq (R.2.2.2.2.2.1 i hi).2).2.2]
end Acc
set_option maxHeartbeats 1000000 in
set_option maxRecDepth 100000 in
theorem mabs32_I {a : Int} (h : -2147483648 < a) (h' : a < 2147483648) : mabs32 (I32 a) = nI a.natAbs := by
  unfold mabs32
  by_cases c : 0 ≤ a
  · rw [if_pos (show (0 : Int32) ≤ I32 a from (I32_le (a := 0) (by omega) (by omega) (by omega) (by omega)).mpr c), ← I32_nI]; congr 1; omega
  · rw [if_neg (show ¬ (0 : Int32) ≤ I32 a from fun h => c ((I32_le (a := 0) (by omega) (by omega) (by omega) (by omega)).mp h)), ← I32_nI]
    have : (0 : Int32) - I32 a = I32 (0 - a) := I32_sub 0 a
    rw [this]; congr 1; omega
set_option maxHeartbeats 1000000 in
set_option maxRecDepth 100000 in
theorem isWithin_some (nS : Nat) (hS : nS ≤ 200) (z : SumS) (n : Nat) (hn : gS_size z = nI n) (hN : n ≤ nS) (T B : Int64) (P A : Int32) : ∀ (d fu i : Nat), i + d = n → d < fu → ∃ r, f_X4_isWithin_3 nS z fu T B P A (nI i) = some r ∧ (r = 0 ∨ r = 1) := by
  intro d
  induction d with
  | zero =>
    intro fu i hi hf
    obtain ⟨fu, rfl⟩ : ∃ f, fu = f + 1 := ⟨fu - 1, by omega⟩
    rw [f_X4_isWithin_3, hn, if_pos ((qI_le (by omega) (by omega)).mpr (by omega))]
    exact ⟨1, rfl, Or.inr rfl⟩
  | succ d ih =>
    intro fu i hi hf
    obtain ⟨fu, rfl⟩ : ∃ f, fu = f + 1 := ⟨fu - 1, by omega⟩
    rw [f_X4_isWithin_3, hn, if_neg (fun h => by have := (qI_le (by omega) (by omega)).mp h; omega)]
    have e2 : inb (nI i) nS = true := (inb_nI (by omega)).mpr (by omega)
    rw [if_pos e2, if_pos e2, powAt_in hn hN hS (by omega), argAt_in hn hN hS (by omega), Option.bind_some, Option.bind_some, nI_add1]
    split
    · exact ⟨0, rfl, Or.inl rfl⟩
    split
    · exact ⟨0, rfl, Or.inl rfl⟩
    split
    · exact ⟨0, rfl, Or.inl rfl⟩
    split
    · exact ih fu (i + 1) (by omega) (by omega)
    · exact ⟨0, rfl, Or.inl rfl⟩
set_option maxHeartbeats 1000000 in
set_option maxRecDepth 100000 in
theorem fits_some (nS : Nat) (hS : nS ≤ 200) (z : SumS) (n : Nat) (hn : gS_size z = nI n) (hN : n ≤ nS) : ∃ r, f_X4_fits nS z = some r ∧ (r = 0 ∨ r = 1) := by
  unfold f_X4_fits
  split
  · exact ⟨0, rfl, Or.inl rfl⟩
  split
  · obtain ⟨r, h, h'⟩ := isWithin_some nS hS z n hn hN 10000000000 100000 12 9 n fuel 0 (by omega) (by rw [fuel_eq]; omega)
    refine ⟨r, ?_, h'⟩
    show (f_X4_isWithin_3 nS z fuel 10000000000 100000 12 9 (nI 0)).bind _ = _
    rw [h, Option.bind_some, if_pos]
    rcases h' with rfl | rfl <;> rfl
  · exact ⟨0, rfl, Or.inl rfl⟩
def wiK (F : Nat → Rat) (T B : Nat) (P A : Nat) (k : Nat) : Prop := (F k).num.natAbs ≤ T ∧ (F k).den ≤ B ∧ (pwK k).natAbs ≤ P ∧ (agK k).natAbs ≤ A
set_option maxHeartbeats 1000000 in
set_option maxRecDepth 100000 in
theorem isWithin_loop (nS : Nat) (hS : nS ≤ 200) (z : SumS) (n : Nat) (K : Nat → Nat) (F : Nat → Rat) (R : sRep z n K F) (hN : n ≤ nS) (hF : ∀ k, s64 (F k).num ∧ (F k).den < 9223372036854775808) (T B P A : Nat) (hT : T < 9223372036854775808) (hB : B < 9223372036854775808) (hP : P < 1000) (hA : A < 1000) :
    ∀ (d fu i : Nat), i + d = n → d < fu → ∃ r, f_X4_isWithin_3 nS z fu (I64 T) (I64 B) (nI P) (nI A) (nI i) = some r ∧ (r = 0 ∨ r = 1) ∧ (r = 1 ↔ ∀ j, i ≤ j → j < n → wiK F T B P A (K j)) := by
  intro d
  induction d with
  | zero =>
    intro fu i hi hf
    obtain ⟨fu, rfl⟩ : ∃ f, fu = f + 1 := ⟨fu - 1, by omega⟩
    rw [f_X4_isWithin_3, R.1, if_pos ((qI_le (by omega) (by omega)).mpr (by omega))]
    exact ⟨1, rfl, Or.inr rfl, by simp; omega⟩
  | succ d ih =>
    intro fu i hi hf
    obtain ⟨fu, rfl⟩ : ∃ f, fu = f + 1 := ⟨fu - 1, by omega⟩
    rw [f_X4_isWithin_3, R.1, if_neg (fun h => by have := (qI_le (by omega) (by omega)).mp h; omega)]
    have e2 : inb (nI i) nS = true := (inb_nI (by omega)).mpr (by omega)
    have hi' : i < n := by omega
    rw [if_pos e2, if_pos e2, powAt_eq R hN hS hi', argAt_eq R hN hS hi', Option.bind_some, Option.bind_some, nI_add1, nI_nat (by omega), R.2.2.1 i hi', R.2.2.2.1 i hi']
    have hk := (R.2.2.2.2.2.1 i hi').2
    have hp : -32 ≤ pwK (K i) ∧ pwK (K i) ≤ 31 := by unfold pwK; omega
    have ha : -16 ≤ agK (K i) ∧ agK (K i) ≤ 15 := by unfold agK; omega
    obtain ⟨hs1, hs2⟩ := hF (K i)
    rw [mabs64_I hs1.r hs1.n, mabs32_I (by omega) (by omega), mabs32_I (by omega) (by omega)]
    have no : ∀ (h : ¬ wiK F T B P A (K i)), ∃ r : Int32, some (0 : Int32) = some r ∧ (r = 0 ∨ r = 1) ∧ (r = 1 ↔ ∀ j, i ≤ j → j < n → wiK F T B P A (K j)) := by
      intro h
      refine ⟨0, rfl, Or.inl rfl, ?_⟩
      constructor
      · intro h9; exact absurd h9 (by decide)
      · intro h9; exact absurd (h9 i (Nat.le_refl _) hi') h
    have hs3 : ((F (K i)).num.natAbs : Int) = ((F (K i)).num.natAbs : Nat) := rfl
    by_cases c1 : (F (K i)).num.natAbs ≤ T
    · rw [if_neg (fun h => by have := (I64_lt (nn_r64 hT) (nn_r64 hs1.abs)).mp h; omega)]
      by_cases c2 : (F (K i)).den ≤ B
      · rw [if_neg (fun h => by have := (I64_lt (nn_r64 hB) (nn_r64 hs2)).mp h; omega)]
        by_cases c3 : (pwK (K i)).natAbs ≤ P
        · rw [if_neg (fun h => by have := (qI_lt (by omega) (by omega)).mp h; omega)]
          by_cases c4 : (agK (K i)).natAbs ≤ A
          · rw [if_pos ((qI_le (by omega) (by omega)).mpr c4)]
            obtain ⟨r, h1, h2, h3⟩ := ih fu (i + 1) (by omega) (by omega)
            refine ⟨r, h1, h2, h3.trans ?_⟩
            constructor
            · intro h j hj hj'
              by_cases e : j = i
              · subst e; exact ⟨c1, c2, c3, c4⟩
              · exact h j (by omega) hj'
            · intro h j hj hj'; exact h j (by omega) hj'
          · rw [if_neg (fun h => c4 ((qI_le (by omega) (by omega)).mp h))]
            exact no (fun h => c4 h.2.2.2)
        · rw [if_pos ((qI_lt (by omega) (by omega)).mpr (by omega))]
          exact no (fun h => c3 h.2.2.1)
      · rw [if_pos ((I64_lt (nn_r64 hB) (nn_r64 hs2)).mpr (by omega))]
        exact no (fun h => c2 h.2.1)
    · rw [if_pos ((I64_lt (nn_r64 hT) (nn_r64 hs1.abs)).mpr (by omega))]
      exact no (fun h => c1 h.1)
section Fit
set_option maxHeartbeats 1000000 in
set_option maxRecDepth 100000 in
theorem fits_eq (nS : Nat) (hS : nS ≤ 200) (z : SumS) (n : Nat) (K : Nat → Nat) (F : Nat → Rat) (R : sRep z n K F) (hN : n ≤ nS) (hF : ∀ k, s64 (F k).num ∧ (F k).den < 9223372036854775808) : ∃ r, f_X4_fits nS z = some r ∧ (r = 0 ∨ r = 1) ∧ (r = 1 ↔ (gS_ov z = 0 ∧ n ≤ 40 ∧ ∀ j, j < n → wiK F 10000000000 100000 12 9 (K j))) := by
  unfold f_X4_fits
  by_cases c : gS_ov z = 0
  · rw [if_neg (by simp [c]), R.1]
    by_cases c2 : n ≤ 40
    · rw [if_pos (show nI n ≤ 40 from (qI_le (m := 40) (by omega) (by omega)).mpr c2)]
      obtain ⟨r, h1, h2, h3⟩ := isWithin_loop nS hS z n K F R hN hF 10000000000 100000 12 9 (by omega) (by omega) (by omega) (by omega) n fuel 0 (by omega) (by rw [fuel_eq]; omega)
      refine ⟨r, ?_, h2, h3.trans ?_⟩
      · show (f_X4_isWithin_3 nS z fuel (I64 (10000000000 : Nat)) (I64 (100000 : Nat)) (nI 12) (nI 9) (nI 0)).bind _ = _
        rw [h1, Option.bind_some, if_pos]
        rcases h2 with rfl | rfl <;> rfl
      · constructor
        · intro h; exact ⟨c, c2, fun j hj => h j (by omega) hj⟩
        · intro h j _ hj; exact h.2.2 j hj
    · rw [if_neg (show ¬ nI n ≤ 40 from fun h => c2 ((qI_le (m := 40) (by omega) (by omega)).mp h))]
      exact ⟨0, rfl, Or.inl rfl, ⟨fun h => absurd h (by decide), fun h => absurd h.2.1 c2⟩⟩
  · rw [if_pos c]
    exact ⟨0, rfl, Or.inl rfl, ⟨fun h => absurd h (by decide), fun h => absurd h.1 c⟩⟩
set_option maxHeartbeats 1000000 in
set_option maxRecDepth 100000 in
theorem isSmall_eq (nS : Nat) (hS : nS ≤ 200) (z : SumS) (n : Nat) (K : Nat → Nat) (F : Nat → Rat) (R : sRep z n K F) (hN : n ≤ nS) (hF : ∀ k, s64 (F k).num ∧ (F k).den < 9223372036854775808) : ∃ r, f_X4_isSmall nS z = some r ∧ (r = 0 ∨ r = 1) ∧ (r = 1 ↔ (∀ j, j < n → wiK F 100 6 4 3 (K j))) := by
  unfold f_X4_isSmall
  obtain ⟨r, h1, h2, h3⟩ := isWithin_loop nS hS z n K F R hN hF 100 6 4 3 (by omega) (by omega) (by omega) (by omega) n fuel 0 (by omega) (by rw [fuel_eq]; omega)
  refine ⟨r, ?_, h2, h3.trans ?_⟩
  · show (f_X4_isWithin_3 nS z fuel (I64 (100 : Nat)) (I64 (6 : Nat)) (nI 4) (nI 3) (nI 0)).bind _ = _
    rw [h1, Option.bind_some, if_pos]
    rcases h2 with rfl | rfl <;> rfl
  · constructor
    · intro h; exact fun j hj => h j (by omega) hj
    · intro h j _ hj; exact h j hj
end Fit
set_option maxHeartbeats 1000000 in
set_option maxRecDepth 100000 in
theorem sRep_clear (z : SumS) (nS : Nat) : ∃ z', f_X4_clear nS z = some z' ∧ sRep z' 0 (fun _ => 0) (fun _ => 0) ∧ gS_ov z' = 0 :=
  ⟨_, rfl, ⟨rfl, fun i h => by omega, fun i h => by omega, fun i h => by omega, fun i j h h' => by omega, fun i h => by omega, fun k h => absurd rfl h⟩, rfl⟩
set_option maxHeartbeats 1000000 in
set_option maxRecDepth 100000 in
theorem become_loop (nS nT : Nat) (hS : nS ≤ 200) (hT : nT ≤ 200) (zT : SumS) (n : Nat) (hnS : n ≤ nS) (hnT : n ≤ nT) : ∀ (d fu i : Nat) (z : SumS), gS_size z = nI n → i + d = n → d < fu → (∀ j, j < i → gS_keys z j = gS_keys zT j ∧ gS_tops z j = gS_tops zT j ∧ gS_bots z j = gS_bots zT j) →
    ∃ z', f_X4_become_25 nS nT zT fu z (nI i) = some z' ∧ gS_size z' = nI n ∧ gS_ov z' = gS_ov z ∧ ∀ j, j < n → gS_keys z' j = gS_keys zT j ∧ gS_tops z' j = gS_tops zT j ∧ gS_bots z' j = gS_bots zT j := by
  intro d
  induction d with
  | zero =>
    intro fu i z hn hi hf hj
    obtain ⟨fu, rfl⟩ : ∃ f, fu = f + 1 := ⟨fu - 1, by omega⟩
    rw [f_X4_become_25, hn, if_pos ((qI_le (by omega) (by omega)).mpr (by omega))]
    exact ⟨z, rfl, hn, rfl, fun j h => hj j (by omega)⟩
  | succ d ih =>
    intro fu i z hn hi hf hj
    obtain ⟨fu, rfl⟩ : ∃ f, fu = f + 1 := ⟨fu - 1, by omega⟩
    have e1 : inb (nI i) nS = true := (inb_nI (by omega)).mpr (by omega)
    have e2 : inb (nI i) nT = true := (inb_nI (by omega)).mpr (by omega)
    have e3 : (nI i).toNatClampNeg = i := nI_nat (by omega)
    rw [f_X4_become_25, hn, if_neg (fun h => by have := (qI_le (by omega) (by omega)).mp h; omega)]
    simp only [e1, e2, e3, if_true]
    rw [nI_add1]
    generalize hz9 : uS_bots _ _ = z9
    have k1 : gS_size z9 = nI n := by rw [← hz9]; exact hn
    have k2 : gS_ov z9 = gS_ov z := by rw [← hz9]; rfl
    have k3 : gS_keys z9 = upd (gS_keys z) i (gS_keys zT i) := by rw [← hz9]; rfl
    have k4 : gS_tops z9 = vp_updL (gS_tops z) i (gS_tops zT i) := by rw [← hz9]; rfl
    have k5 : gS_bots z9 = vp_updL (gS_bots z) i (gS_bots zT i) := by rw [← hz9]; rfl
    obtain ⟨z', h1, h2, h3, h4⟩ := ih fu (i + 1) z9 k1 (by omega) (by omega) (by
      intro j h
      rw [k3, k4, k5]
      by_cases e : j = i
      · subst e; rw [upd_self, updL_self, updL_self]; exact ⟨rfl, rfl, rfl⟩
      · rw [upd_ne _ _ e, updL_ne _ _ e, updL_ne _ _ e]; exact hj j (by omega))
    exact ⟨z', h1, h2, h3.trans k2, h4⟩
set_option maxHeartbeats 1000000 in
set_option maxRecDepth 100000 in
theorem become_eq (nS nT : Nat) (hS : nS ≤ 200) (hT : nT ≤ 200) (zT z : SumS) (n : Nat) (K : Nat → Nat) (F : Nat → Rat) (R : sRep zT n K F) (hnS : n ≤ nS) (hnT : n ≤ nT) (ho : gS_ov zT = 0) : ∃ z', f_X4_become nS nT zT z = some z' ∧ sRep z' n K F ∧ gS_ov z' = 0 := by
  unfold f_X4_become
  rw [ho, if_pos (by decide), R.1]
  have hm : mmin32 (nI n) (nI nS) = nI n := by
    unfold mmin32; rw [if_neg (fun h => by have := (qI_lt (by omega) (by omega)).mp h; omega)]
  rw [hm]
  obtain ⟨z', h1, h2, h3, h4⟩ := become_loop nS nT hS hT zT n hnS hnT n fuel 0 (uS_ov (uS_size z (nI n)) 0) rfl (by omega) (by rw [fuel_eq]; omega) (fun j h => by omega)
  obtain ⟨R1, R2, R3, R4, R5, R6, R7⟩ := R
  exact ⟨z', h1, ⟨h2, fun i hi => ((h4 i hi).1).trans (R2 i hi), fun i hi => ((h4 i hi).2.1).trans (R3 i hi), fun i hi => ((h4 i hi).2.2).trans (R4 i hi), R5, R6, R7⟩, h3⟩
set_option maxHeartbeats 1000000 in
set_option maxRecDepth 100000 in
theorem matches_loop (nS nT : Nat) (hS : nS ≤ 200) (hT : nT ≤ 200) (z zT : SumS) (n : Nat) (K K' : Nat → Nat) (F F' : Nat → Rat) (R : sRep z n K F) (R' : sRep zT n K' F') (hnS : n ≤ nS) (hnT : n ≤ nT) (hF : ∀ k, s64 (F k).num ∧ (F k).den < 9223372036854775808) (hF' : ∀ k, s64 (F' k).num ∧ (F' k).den < 9223372036854775808) : ∀ (d fu i : Nat), i + d = n → d < fu → ∃ r, f_X4_matches_15 nS nT z zT fu (nI i) = some r ∧ (r = 0 ∨ r = 1) ∧ (r = 1 ↔ ∀ j, i ≤ j → j < n → K j = K' j ∧ F (K j) = F' (K' j)) := by
  intro d
  induction d with
  | zero =>
    intro fu i hi hf
    obtain ⟨fu, rfl⟩ : ∃ f, fu = f + 1 := ⟨fu - 1, by omega⟩
    rw [f_X4_matches_15, R.1, if_pos ((qI_le (by omega) (by omega)).mpr (by omega))]
    exact ⟨1, rfl, Or.inr rfl, by simp; omega⟩
  | succ d ih =>
    intro fu i hi hf
    obtain ⟨fu, rfl⟩ : ∃ f, fu = f + 1 := ⟨fu - 1, by omega⟩
    have hi' : i < n := by omega
    have e1 : inb (nI i) nS = true := (inb_nI (by omega)).mpr (by omega)
    have e2 : inb (nI i) nT = true := (inb_nI (by omega)).mpr (by omega)
    have e3 : (nI i).toNatClampNeg = i := nI_nat (by omega)
    rw [f_X4_matches_15, R.1, if_neg (fun h => by have := (qI_le (by omega) (by omega)).mp h; omega)]
    simp only [e1, e2, e3, if_true]
    rw [nI_add1, R.2.1 i hi', R'.2.1 i hi', R.2.2.1 i hi', R'.2.2.1 i hi', R.2.2.2.1 i hi', R'.2.2.2.1 i hi']
    have no : ∀ (h : ¬ (K i = K' i ∧ F (K i) = F' (K' i))), ∃ r : Int32, some (0 : Int32) = some r ∧ (r = 0 ∨ r = 1) ∧ (r = 1 ↔ ∀ j, i ≤ j → j < n → K j = K' j ∧ F (K j) = F' (K' j)) := by
      intro h
      refine ⟨0, rfl, Or.inl rfl, ?_⟩
      constructor
      · intro h9; exact absurd h9 (by decide)
      · intro h9; exact absurd (h9 i (Nat.le_refl _) hi') h
    have hk := (R.2.2.2.2.2.1 i hi').2
    have hk' := (R'.2.2.2.2.2.1 i hi').2
    have t1 : nI (K i) = nI (K' i) ↔ K i = K' i := nI_inj (by omega) (by omega)
    have t2 : I64 (F (K i)).num = I64 (F' (K' i)).num ↔ (F (K i)).num = (F' (K' i)).num := I64_inj (hF _).1.r (hF' _).1.r
    have t3 : I64 ((F (K i)).den : Int) = I64 ((F' (K' i)).den : Int) ↔ (F (K i)).den = (F' (K' i)).den := by
      rw [I64_inj (nn_r64 (hF _).2) (nn_r64 (hF' _).2)]; omega
    by_cases c1 : K i = K' i
    · rw [if_neg (fun h => h (t1.mpr c1))]
      by_cases c2 : (F (K i)).num = (F' (K' i)).num
      · rw [if_neg (fun h => h (t2.mpr c2))]
        by_cases c3 : (F (K i)).den = (F' (K' i)).den
        · rw [if_pos (t3.mpr c3)]
          obtain ⟨r, h1, h2, h3⟩ := ih fu (i + 1) (by omega) (by omega)
          refine ⟨r, h1, h2, h3.trans ?_⟩
          constructor
          · intro h j hj hj'
            by_cases e : j = i
            · subst e; exact ⟨c1, Rat.ext c2 c3⟩
            · exact h j (by omega) hj'
          · intro h j hj hj'; exact h j (by omega) hj'
        · rw [if_neg (fun h => c3 (t3.mp h))]; exact no (fun h => c3 (by rw [h.2]))
      · rw [if_pos (fun h => c2 (t2.mp h))]; exact no (fun h => c2 (by rw [h.2]))
    · rw [if_pos (fun h => c1 (t1.mp h))]; exact no (fun h => c1 h.1)
def sg (k : Nat) (v : Rat) : Nat → Rat := fun j => if j = k then v else 0
def addF (F G : Nat → Rat) : Nat → Rat := fun j => F j + G j
set_option maxHeartbeats 1000000 in
set_option maxRecDepth 100000 in
theorem addF_sg (F : Nat → Rat) (k : Nat) (v : Rat) : addF F (sg k v) = upF F k (F k + v) := by
  funext j
  unfold addF sg upF
  by_cases c : j = k
  · subst c; rw [if_pos rfl, if_pos rfl]
  · rw [if_neg c, if_neg c, Rat.add_zero]
set_option maxHeartbeats 1000000 in
set_option maxRecDepth 100000 in
theorem addF_sg0 (F : Nat → Rat) (k : Nat) : addF F (sg k 0) = F := by
  funext j
  unfold addF sg
  by_cases c : j = k
  · rw [if_pos c, Rat.add_zero]
  · rw [if_neg c, Rat.add_zero]
set_option maxHeartbeats 1000000 in
set_option maxRecDepth 100000 in
theorem addF_assoc (F G H : Nat → Rat) : addF (addF F G) H = addF F (addF G H) := by funext j; unfold addF; exact Rat.add_assoc _ _ _
set_option maxHeartbeats 1000000 in
set_option maxRecDepth 100000 in
theorem addF_comm (F G : Nat → Rat) : addF F G = addF G F := by funext j; unfold addF; exact Rat.add_comm _ _
set_option maxHeartbeats 1000000 in
set_option maxRecDepth 100000 in
theorem addF_0 (F : Nat → Rat) : addF F (fun _ => 0) = F := by funext j; unfold addF; exact Rat.add_zero _
set_option maxHeartbeats 1000000 in
set_option maxRecDepth 100000 in
theorem addF_0l (F : Nat → Rat) : addF (fun _ => 0) F = F := by funext j; unfold addF; exact Rat.zero_add _
def nkey (kd : Nat) (ag pw : Int) : Nat := if ag = 0 then ky 0 0 pw else if (kd = 3 ∨ kd = 4) ∧ ag < 0 then ky kd (-ag) pw else ky kd ag pw
def nval (kd : Nat) (ag : Int) (v : Rat) : Rat := if ag = 0 then (if kd = 3 then 0 else v) else if kd = 3 ∧ ag < 0 then -v else v
def dl (kd : Nat) (ag pw : Int) (v : Rat) : Nat → Rat := sg (nkey kd ag pw) (nval kd ag v)
def bdK (F : Nat → Rat) (k : Nat) (p q : Int) : Prop := s64 ((F k).num * q + p * (F k).den) ∧ s64 ((F k).num * q + -p * (F k).den) ∧ ((F k).den * q).natAbs < 281474976710656
def okT (kd : Nat) (ag pw : Int) : Prop := kd ≤ 4 ∧ -15 ≤ ag ∧ ag ≤ 15 ∧ -31 ≤ pw ∧ pw ≤ 31
set_option maxHeartbeats 1000000 in
set_option maxRecDepth 100000 in
theorem put_some (nS : Nat) (hS : nS ≤ 200) (z : SumS) (n : Nat) (hn : gS_size z = nI n) (hN : n ≤ nS) (a1 a2 a3 : Int32) (t b : Int64) : ∃ z' n', f_X4_put nS z a1 a2 a3 t b = some z' ∧ gS_size z' = nI n' ∧ n' ≤ nS := by
  have h1 : ∀ k t, ∃ z' n', ((f_X4_addUp nS z k t b).bind fun r => some r) = some z' ∧ gS_size z' = nI n' ∧ n' ≤ nS := by
    intro k t
    obtain ⟨z', n', e, e2, e3⟩ := addUp_some nS hS z n hn hN k t b
    exact ⟨z', n', by rw [e, Option.bind_some], e2, e3⟩
  have h15 : ∀ v, ∃ z' n', f_X4_put_15 nS z a1 a2 a3 t b v = some z' ∧ gS_size z' = nI n' ∧ n' ≤ nS := by
    intro v
    unfold f_X4_put_15 f_X4_put_81 f_X4_put_73 f_X4_keyOf
    simp only [Option.bind_some]
    repeat' split
    all_goals first | exact h1 _ _ | exact ⟨z, n, rfl, hn, hN⟩
  unfold f_X4_put f_X4_put_10
  repeat' split
  all_goals exact h15 _
section Put
variable {nS : Nat} {z : SumS} {n : Nat} {K : Nat → Nat} {F : Nat → Rat}
set_option maxHeartbeats 1000000 in
set_option maxRecDepth 100000 in
theorem addUp_sg (hS : nS ≤ 200) (R : sRep z n K F) (hN : n < nS) (k : Nat) (hk : k < 10240) (p q : Int) (hq : q ≠ 0)
    (ht : s64 ((F k).num * q + p * (F k).den)) (hb : ((F k).den * q).natAbs < 281474976710656) :
    ∃ z' n' K', ((f_X4_addUp nS z (nI k) (I64 p) (I64 q)).bind fun r => some r) = some z' ∧ sRep z' n' K' (addF F (sg k (Rat.divInt p q))) ∧ gS_ov z' = gS_ov z ∧ n' ≤ n + 1 := by
  obtain ⟨z', n', K', h1, h2, h3, h4, h5⟩ := addUp_eq nS hS z n K F R (by omega) k hk p q hq (fun _ => hN) ht hb
  exact ⟨z', n', K', by rw [h1, Option.bind_some], by rw [addF_sg]; exact h2, h3, h5⟩
set_option maxHeartbeats 1000000 in
set_option maxRecDepth 100000 in
theorem put_eq (hS : nS ≤ 200) (R : sRep z n K F) (hN : n < nS) {kd : Nat} {ag pw : Int} (ok : okT kd ag pw) (p q : Int) (hq : q ≠ 0) (hbd : bdK F (nkey kd ag pw) p q) :
    ∃ z' n' K', f_X4_put nS z (nI kd) (I32 ag) (I32 pw) (I64 p) (I64 q) = some z' ∧ sRep z' n' K' (addF F (dl kd ag pw (Rat.divInt p q))) ∧ gS_ov z' = gS_ov z ∧ n' ≤ n + 1 := by
  obtain ⟨o1, o2, o3, o4, o5⟩ := ok
  obtain ⟨b1, b2, b3⟩ := hbd
  have t3 : nI kd = 3 ↔ kd = 3 := nI_inj (m := 3) (by omega) (by omega)
  have t4 : nI kd = 4 ↔ kd = 4 := nI_inj (m := 4) (by omega) (by omega)
  have a0 : I32 ag = 0 ↔ ag = 0 := I32_inj (b := 0) (by omega) (by omega) (by omega) (by omega)
  have a1 : 0 ≤ I32 ag ↔ 0 ≤ ag := I32_le (a := 0) (by omega) (by omega) (by omega) (by omega)
  have h15 : ∀ v : Int32, (v = 0 ↔ ¬ (kd = 3 ∨ kd = 4)) → ∃ z' n' K', f_X4_put_15 nS z (nI kd) (I32 ag) (I32 pw) (I64 p) (I64 q) v = some z' ∧ sRep z' n' K' (addF F (dl kd ag pw (Rat.divInt p q))) ∧ gS_ov z' = gS_ov z ∧ n' ≤ n + 1 := by
    intro v hv
    unfold f_X4_put_15 f_X4_put_81 f_X4_put_73
    by_cases c : ag = 0
    · rw [if_neg (by rw [a0]; simp [c])]
      by_cases c3 : kd = 3
      · rw [if_pos (t3.mpr c3)]
        refine ⟨z, n, K, rfl, ?_, rfl, by omega⟩
        unfold dl nval
        rw [if_pos c, if_pos c3, addF_sg0]; exact R
      · rw [if_neg (fun h => c3 (t3.mp h))]
        have e : f_X4_keyOf 0 0 (I32 pw) = some (nI (ky 0 0 pw)) := keyOf_eq (kd := 0) (ag := 0) (by unfold okA; omega) (by omega)
        rw [e, Option.bind_some]
        have hk : nkey kd ag pw = ky 0 0 pw := by unfold nkey; rw [if_pos c]
        rw [hk] at b1 b2 b3
        have hdl : dl kd ag pw (Rat.divInt p q) = sg (ky 0 0 pw) (Rat.divInt p q) := by unfold dl nval; rw [hk, if_pos c, if_neg c3]
        rw [hdl]
        exact addUp_sg hS R hN _ (ky_lt (by unfold okA; omega) (by omega)) p q hq b1 b3
    · rw [if_pos (fun h => c (a0.mp h))]
      by_cases cv : (kd = 3 ∨ kd = 4) ∧ ag < 0
      · have hv0 : ¬ v = 0 := fun h => hv.mp h cv.1
        rw [if_neg hv0, if_neg (fun h => by have := a1.mp h; omega), I32_neg, keyOf_eq (by unfold okA; omega) o1, Option.bind_some]
        have hk : nkey kd ag pw = ky kd (-ag) pw := by unfold nkey; rw [if_neg c, if_pos cv]
        rw [hk] at b1 b2 b3
        by_cases c3 : kd = 3
        · rw [if_neg (fun h => h (t3.mpr c3)), I64_neg]
          have hdl : dl kd ag pw (Rat.divInt p q) = sg (ky kd (-ag) pw) (Rat.divInt (-p) q) := by unfold dl nval; rw [hk, if_neg c, if_pos ⟨c3, cv.2⟩, Rat.neg_divInt]
          rw [hdl]
          exact addUp_sg hS R hN _ (ky_lt (by unfold okA; omega) (by omega)) (-p) q hq b2 b3
        · rw [if_pos (fun h => c3 (t3.mp h))]
          have hdl : dl kd ag pw (Rat.divInt p q) = sg (ky kd (-ag) pw) (Rat.divInt p q) := by unfold dl nval; rw [hk, if_neg c, if_neg (fun h => c3 h.1)]
          rw [hdl]
          exact addUp_sg hS R hN _ (ky_lt (by unfold okA; omega) (by omega)) p q hq b1 b3
      · have hk : nkey kd ag pw = ky kd ag pw := by unfold nkey; rw [if_neg c, if_neg cv]
        rw [hk] at b1 b2 b3
        have hdl : dl kd ag pw (Rat.divInt p q) = sg (ky kd ag pw) (Rat.divInt p q) := by unfold dl nval; rw [hk, if_neg c, if_neg (fun h => cv ⟨Or.inl h.1, h.2⟩)]
        rw [hdl, keyOf_eq (by unfold okA; omega) o1, Option.bind_some]
        have fin := addUp_sg hS R hN _ (ky_lt (kd := kd) (ag := ag) (pw := pw) (by unfold okA; omega) (by omega)) p q hq b1 b3
        by_cases hv0 : v = 0
        · rw [if_pos hv0]; exact fin
        · have h34 : kd = 3 ∨ kd = 4 := Classical.byContradiction (fun h => hv0 (hv.mpr h))
          rw [if_neg hv0, if_pos (a1.mpr (by omega))]; exact fin
  unfold f_X4_put f_X4_put_10
  by_cases c3 : kd = 3
  · rw [if_pos (t3.mpr c3)]; exact h15 1 ⟨fun h => absurd h (by decide), fun h => absurd (Or.inl c3) h⟩
  · rw [if_neg (fun h => c3 (t3.mp h))]
    by_cases c4 : kd = 4
    · rw [if_neg (fun h => h (t4.mpr c4))]; exact h15 1 ⟨fun h => absurd h (by decide), fun h => absurd (Or.inr c4) h⟩
    · rw [if_pos (fun h => c4 (t4.mp h))]; exact h15 0 ⟨fun _ h => by omega, fun _ => rfl⟩
end Put
def rRep (z : MdS) (row : Nat) (F : Nat → Rat) : Prop := ∀ c, c < 1150 → gM_up z (1150 * row + c) = I64 (F (kc c)).num ∧ gM_down z (1150 * row + c) = I64 ((F (kc c)).den : Int)
def mSame (z w : MdS) : Prop := gM_refusal w = gM_refusal z ∧ gM_lineSize w = gM_lineSize z ∧ gM_outSize w = gM_outSize z ∧ gM_wrongPlace w = gM_wrongPlace z ∧ gM_at w = gM_at z ∧ gM_fault w = gM_fault z ∧ gM_line w = gM_line z ∧ gM_out w = gM_out z
set_option maxHeartbeats 1000000 in
set_option maxRecDepth 100000 in
theorem mSame.rfl' (z : MdS) : mSame z z := ⟨rfl, rfl, rfl, rfl, rfl, rfl, rfl, rfl⟩
set_option maxHeartbeats 1000000 in
set_option maxRecDepth 100000 in
theorem mSame.trans {a b c : MdS} (h : mSame a b) (g : mSame b c) : mSame a c := by
  obtain ⟨h1, h2, h3, h4, h5, h6, h7, h8⟩ := h
  obtain ⟨g1, g2, g3, g4, g5, g6, g7, g8⟩ := g
  exact ⟨g1.trans h1, g2.trans h2, g3.trans h3, g4.trans h4, g5.trans h5, g6.trans h6, g7.trans h7, g8.trans h8⟩
def mRow (z w : MdS) (r : Nat) : Prop := ∀ j, (j < 1150 * r ∨ 1150 * r + 1150 ≤ j) → gM_up w j = gM_up z j ∧ gM_down w j = gM_down z j
set_option maxHeartbeats 1000000 in
set_option maxRecDepth 100000 in
theorem mRow.rfl' (z : MdS) (r : Nat) : mRow z z r := fun _ _ => ⟨rfl, rfl⟩
set_option maxHeartbeats 1000000 in
set_option maxRecDepth 100000 in
theorem mRow.trans {a b c : MdS} {r : Nat} (h : mRow a b r) (g : mRow b c r) : mRow a c r := fun j hj => ⟨(g j hj).1.trans (h j hj).1, (g j hj).2.trans (h j hj).2⟩
set_option maxHeartbeats 1000000 in
set_option maxRecDepth 100000 in
theorem rRep.keep {z w : MdS} {r r' : Nat} {F : Nat → Rat} (h : rRep z r' F) (g : mRow z w r) (hne : r' ≠ r) : rRep w r' F := by
  intro c hc
  have hj : 1150 * r' + c < 1150 * r ∨ 1150 * r + 1150 ≤ 1150 * r' + c := by omega
  rw [(g _ hj).1, (g _ hj).2]; exact h c hc
set_option maxHeartbeats 1000000 in
set_option maxRecDepth 100000 in
theorem kindOf_eq : ∀ f : Fin 46, f_X7_kindOf (nI f.val) = some (nI (kdF f.val)) ∧ f_X7_countOf (nI f.val) = some (I32 (ctF f.val)) := by decide +kernel
set_option maxHeartbeats 1000000 in
set_option maxRecDepth 100000 in
theorem functionOf_dec : ∀ kd : Fin 5, ∀ a : Fin 31, f_X7_functionOf (nI kd.val) (I32 ((a.val : Int) - 15)) = some (I32 (if kd.val = 0 then 0 else if kd.val = 1 then (a.val : Int) - 15 else if kd.val = 2 then (if (a.val : Int) - 15 < 0 then (a.val : Int) - 15 + 19 else (a.val : Int) - 15 + 18) else if kd.val = 3 then (a.val : Int) - 15 + 27 else (a.val : Int) - 15 + 36)) := by decide +kernel
set_option maxHeartbeats 1000000 in
set_option maxRecDepth 100000 in
theorem functionOf_eq {kd : Nat} {ag pw : Int} (h : vkd kd ag pw) : f_X7_functionOf (nI kd) (I32 ag) = some (nI (fnK kd ag)) := by
  have h' := h
  unfold vkd at h
  have := functionOf_dec ⟨kd, by omega⟩ ⟨(ag + 15).toNat, by omega⟩
  have e : (((ag + 15).toNat : Nat) : Int) - 15 = ag := by omega
  simp only [e] at this
  rw [this, ← I32_nI]
  congr 2
  unfold fnK
  repeat' split
  all_goals omega
set_option maxHeartbeats 1000000 in
set_option maxRecDepth 100000 in
theorem idx_eq (row f : Nat) (m : Int) (hm : -12 ≤ m) : ((((1150 : Int32) * nI row) + ((25 : Int32) * nI f)) + I32 m) + (12 : Int32) = nI (1150 * row + (25 * f + (m + 12).toNat)) := by
  have e1 : (1150 : Int32) = I32 1150 := rfl
  have e2 : (25 : Int32) = I32 25 := rfl
  have e3 : (12 : Int32) = I32 12 := rfl
  rw [e1, e2, e3, ← I32_nI, ← I32_nI, ← I32_nI, I32_mul, I32_mul, I32_add, I32_add, I32_add]
  congr 1; omega
set_option maxHeartbeats 1000000 in
set_option maxRecDepth 100000 in
theorem row_eq (row c : Nat) : ((1150 : Int32) * nI row) + nI c = nI (1150 * row + c) := by
  have e1 : (1150 : Int32) = nI 1150 := rfl
  rw [e1, nI_mul, qI_add]
set_option maxHeartbeats 1000000 in
set_option maxRecDepth 100000 in
theorem row0_eq (row : Nat) : (1150 : Int32) * nI row = nI (1150 * row) := by
  have e1 : (1150 : Int32) = nI 1150 := rfl
  rw [e1, nI_mul]
set_option maxHeartbeats 1000000 in
set_option maxRecDepth 100000 in
theorem row1_eq (row : Nat) : ((1150 : Int32) * nI row) + 1150 = nI (1150 * row + 1150) := row_eq row 1150
set_option maxHeartbeats 1000000 in
set_option maxRecDepth 100000 in
theorem inU {j : Nat} (h : j < 11500) : inb (nI j) nUD = true := (inb_nI (by omega)).mpr h
set_option maxHeartbeats 1000000 in
set_option maxRecDepth 100000 in
theorem addCell_eq (z : MdS) (row : Nat) (hr : row < 10) (F : Nat → Rat) (R : rRep z row F) {kd : Nat} {ag pw : Int} (hv : vkd kd ag pw) (p q : Int) (hq : 0 < q)
    (ht : s64 ((F (ky kd ag pw)).num * q + p * (F (ky kd ag pw)).den)) (hb : s64 ((F (ky kd ag pw)).den * q)) :
    ∃ z', f_X7_addTerm_125 z (nI row) (I32 pw) (I64 q) (I64 p) (nI kd) (I32 ag) = some z' ∧ rRep z' row (addF F (sg (ky kd ag pw) (Rat.divInt p q))) ∧ mSame z z' ∧ mRow z z' row ∧ gM_isFull z' = gM_isFull z ∧ gM_top z' = gM_top z ∧ gM_bottom z' = gM_bottom z := by
  obtain ⟨hc, hkc⟩ := clF_spec hv
  have hpw : -12 ≤ pw := hv.1
  unfold f_X7_addTerm_125
  rw [functionOf_eq hv, Option.bind_some, idx_eq row (fnK kd ag) pw hpw, Option.bind_some]
  have hcl : 25 * fnK kd ag + (pw + 12).toNat = clF kd ag pw := rfl
  rw [hcl]
  generalize hcc : clF kd ag pw = c at *
  have e1 : inb (nI (1150 * row + c)) nUD = true := inU (by omega)
  have e2 : (nI (1150 * row + c)).toNatClampNeg = 1150 * row + c := nI_nat (by omega)
  obtain ⟨r1, r2⟩ := R c hc
  rw [hkc] at r1 r2
  generalize hk : ky kd ag pw = k at *
  have hden : (F k).den ≠ 0 := (F k).den_nz
  have hdq : 0 < ((F k).den : Int) * q := Int.mul_pos (by omega) hq
  simp only [e1, if_true, e2, Option.bind_some]
  rw [r1, r2, I64_mul, I64_mul, I64_add, I64_mul, mgcd_eq ht hb, Option.bind_some]
  generalize hA : (F k).num * q + p * (F k).den = A at *
  generalize hB : ((F k).den : Int) * q = B at *
  have hgp : 0 < Int.gcd A B := Int.gcd_pos_of_ne_zero_right A (by omega)
  have hgl : Int.gcd A B ≤ B.natAbs := Nat.le_of_dvd (by omega) (Nat.gcd_dvd_right _ _)
  have hgr : r64 ((Int.gcd A B : Nat) : Int) := nn_r64 (Nat.lt_of_le_of_lt hgl hb.abs)
  have hg0 : ¬ I64 ((Int.gcd A B : Nat) : Int) = 0 := fun h => by have := (I64_eq0 hgr).mp h; omega
  simp only [hg0, not_false_eq_true, if_true]
  have hn := red_num A B (by omega)
  have hd := red_den A B (by omega)
  rw [if_neg (by omega)] at hn hd
  rw [I64_div ht.r hgr (tdiv_r64 ht.1 ht.2), I64_div hb.r hgr (tdiv_r64 hb.1 hb.2), hn, hd]
  have hsum : F k + Rat.divInt p q = Rat.divInt A B := by rw [rat_add_divInt (F k) p q (by omega), hA, hB]
  refine ⟨_, rfl, ?_, ⟨rfl, rfl, rfl, rfl, rfl, rfl, rfl, rfl⟩, ?_, rfl, rfl, rfl⟩
  · intro d hd'
    show vp_updL (gM_up z) (1150 * row + c) (I64 (Rat.divInt A B).num) (1150 * row + d) = _ ∧ vp_updL (gM_down z) (1150 * row + c) (I64 ((Rat.divInt A B).den : Int)) (1150 * row + d) = _
    rw [addF_sg]
    by_cases e : d = c
    · subst e; rw [updL_self, updL_self, hkc, upF_self, hsum]; exact ⟨rfl, rfl⟩
    · rw [updL_ne _ _ (by omega), updL_ne _ _ (by omega), upF_ne]
      · exact R d hd'
      · intro h; exact e (kc_inj hd' hc (h.trans hkc.symm))
  · intro j hj
    show vp_updL (gM_up z) (1150 * row + c) _ j = _ ∧ vp_updL (gM_down z) (1150 * row + c) _ j = _
    rw [updL_ne _ _ (by omega), updL_ne _ _ (by omega)]; exact ⟨rfl, rfl⟩
set_option maxHeartbeats 1000000 in
set_option maxRecDepth 100000 in
theorem addTerm_eq (z : MdS) (row : Nat) (hr : row < 10) (F : Nat → Rat) (R : rRep z row F) {kd : Nat} {ag pw : Int} (ok : okT kd ag pw) (hv : (kd = 1 → 0 ≤ ag) ∧ (kd = 0 → ag = 0)) (p q : Int) (hq : 0 < q) (hp : s64 p) (hbd : bdK F (nkey kd ag pw) p q) :
    ∃ z', f_X7_addTerm z (nI row) (nI kd) (I32 ag) (I32 pw) (I64 p) (I64 q) = some z' ∧ mSame z z' ∧ mRow z z' row ∧ gM_top z' = gM_top z ∧ gM_bottom z' = gM_bottom z ∧
      (vk (nkey kd ag pw) → rRep z' row (addF F (dl kd ag pw (Rat.divInt p q))) ∧ gM_isFull z' = gM_isFull z) ∧
      (¬ vk (nkey kd ag pw) → nval kd ag (Rat.divInt p q) = 0 → z' = z) ∧ (¬ vk (nkey kd ag pw) → nval kd ag (Rat.divInt p q) ≠ 0 → z' = uM_isFull z 1) := by
  obtain ⟨o1, o2, o3, o4, o5⟩ := ok
  obtain ⟨b1, b2, b3⟩ := hbd
  have hb4 : s64 ((F (nkey kd ag pw)).den * q) := by unfold s64; omega
  have h64 : ∀ (kd' : Nat) (ag' : Int) (p' : Int), kd' ≤ 4 → -15 ≤ ag' → ag' ≤ 15 → (kd' = 1 → 1 ≤ ag') → (kd' = 0 → ag' = 0) → (kd' = 2 → ag' ≠ 0) → (kd' = 3 ∨ kd' = 4 → 1 ≤ ag') → s64 p' → nkey kd ag pw = ky kd' ag' pw → s64 ((F (ky kd' ag' pw)).num * q + p' * (F (ky kd' ag' pw)).den) →
      dl kd ag pw (Rat.divInt p q) = sg (ky kd' ag' pw) (Rat.divInt p' q) → (nval kd ag (Rat.divInt p q) = 0 ↔ p' = 0) →
      ∃ z', f_X7_addTerm_64 z (nI row) (I32 pw) (I64 q) (I64 p') (nI kd') (I32 ag') = some z' ∧ mSame z z' ∧ mRow z z' row ∧ gM_top z' = gM_top z ∧ gM_bottom z' = gM_bottom z ∧
      (vk (nkey kd ag pw) → rRep z' row (addF F (dl kd ag pw (Rat.divInt p q))) ∧ gM_isFull z' = gM_isFull z) ∧
      (¬ vk (nkey kd ag pw) → nval kd ag (Rat.divInt p q) = 0 → z' = z) ∧ (¬ vk (nkey kd ag pw) → nval kd ag (Rat.divInt p q) ≠ 0 → z' = uM_isFull z 1) := by
    intro kd' ag' p' k4 g1 g2 g3 g4 g5 g6 hp' hke hs hdl hnv
    have hoA : okA ag' pw := by unfold okA; omega
    have hvk : vk (nkey kd ag pw) ↔ vkd kd' ag' pw := by rw [hke]; exact vk_iff hoA
    rw [hke] at hb4
    rw [hvk]
    unfold f_X7_addTerm_64
    by_cases c0 : p' = 0
    · rw [if_neg (by rw [I64_eq0 hp'.r]; simp [c0])]
      refine ⟨z, rfl, mSame.rfl' z, mRow.rfl' z row, rfl, rfl, fun _ => ⟨?_, rfl⟩, fun _ _ => rfl, fun _ h => absurd (hnv.mpr c0) h⟩
      rw [hdl, c0, Rat.zero_divInt, addF_sg0]; exact R
    · rw [if_pos (by rw [I64_eq0 hp'.r]; exact c0)]
      have full : ¬ vkd kd' ag' pw → ∃ z', f_X7_addTerm_119 z = some z' ∧ mSame z z' ∧ mRow z z' row ∧ gM_top z' = gM_top z ∧ gM_bottom z' = gM_bottom z ∧
          (vkd kd' ag' pw → rRep z' row (addF F (dl kd ag pw (Rat.divInt p q))) ∧ gM_isFull z' = gM_isFull z) ∧
          (¬ vkd kd' ag' pw → nval kd ag (Rat.divInt p q) = 0 → z' = z) ∧ (¬ vkd kd' ag' pw → nval kd ag (Rat.divInt p q) ≠ 0 → z' = uM_isFull z 1) := by
        intro hn
        exact ⟨uM_isFull z 1, rfl, ⟨rfl, rfl, rfl, rfl, rfl, rfl, rfl, rfl⟩, fun _ _ => ⟨rfl, rfl⟩, rfl, rfl, fun h => absurd h hn, fun _ h => absurd (hnv.mp h) c0, fun _ _ => rfl⟩
      have go : vkd kd' ag' pw → ∃ z', f_X7_addTerm_125 z (nI row) (I32 pw) (I64 q) (I64 p') (nI kd') (I32 ag') = some z' ∧ mSame z z' ∧ mRow z z' row ∧ gM_top z' = gM_top z ∧ gM_bottom z' = gM_bottom z ∧
          (vkd kd' ag' pw → rRep z' row (addF F (dl kd ag pw (Rat.divInt p q))) ∧ gM_isFull z' = gM_isFull z) ∧
          (¬ vkd kd' ag' pw → nval kd ag (Rat.divInt p q) = 0 → z' = z) ∧ (¬ vkd kd' ag' pw → nval kd ag (Rat.divInt p q) ≠ 0 → z' = uM_isFull z 1) := by
        intro hy
        obtain ⟨z', w1, w2, w3, w4, w5, w6, w7⟩ := addCell_eq z row hr F R hy p' q hq hs hb4
        exact ⟨z', w1, w3, w4, w6, w7, fun _ => ⟨by rw [hdl]; exact w2, w5⟩, fun h => absurd hy h, fun h => absurd hy h⟩
      have p1 : I32 pw < (-12 : Int32) ↔ pw < -12 := by rw [show (-12 : Int32) = I32 (-12) by decide]; exact I32_lt (by omega) (by omega) (by omega) (by omega)
      have p2 : (12 : Int32) < I32 pw ↔ 12 < pw := I32_lt (a := 12) (by omega) (by omega) (by omega) (by omega)
      have p3 : (9 : Int32) < I32 ag' ↔ 9 < ag' := I32_lt (a := 9) (by omega) (by omega) (by omega) (by omega)
      have p4 : (-9 : Int32) ≤ I32 ag' ↔ -9 ≤ ag' := by rw [show (-9 : Int32) = I32 (-9) by decide]; exact I32_le (by omega) (by omega) (by omega) (by omega)
      have p5 : nI kd' = 1 ↔ kd' = 1 := nI_inj (m := 1) (by omega) (by omega)
      have p6 : nI kd' ≤ 1 ↔ kd' ≤ 1 := qI_le (m := 1) (by omega) (by omega)
      by_cases d1 : pw < -12
      · rw [if_pos (p1.mpr d1)]; exact full (fun h => by unfold vkd at h; omega)
      rw [if_neg (fun h => d1 (p1.mp h))]
      by_cases d2 : 12 < pw
      · rw [if_pos (p2.mpr d2)]; exact full (fun h => by unfold vkd at h; omega)
      rw [if_neg (fun h => d2 (p2.mp h))]
      unfold f_X7_addTerm_99
      by_cases d3 : kd' = 1
      · rw [if_neg (fun h => h (p5.mpr d3))]
        by_cases d4 : 9 < ag'
        · rw [if_pos (p3.mpr d4)]; exact full (fun h => by unfold vkd at h; omega)
        · rw [if_neg (fun h => d4 (p3.mp h)), if_pos (p6.mpr (by omega))]
          exact go (by unfold vkd; omega)
      · rw [if_pos (fun h => d3 (p5.mp h))]
        by_cases d5 : kd' ≤ 1
        · rw [if_pos (p6.mpr d5)]
          exact go (by unfold vkd; omega)
        · rw [if_neg (fun h => d5 (p6.mp h))]
          by_cases d4 : 9 < ag'
          · rw [if_pos (p3.mpr d4)]; exact full (fun h => by unfold vkd at h; omega)
          · rw [if_neg (fun h => d4 (p3.mp h))]
            by_cases d6 : -9 ≤ ag'
            · rw [if_pos (p4.mpr d6)]
              exact go (by unfold vkd; omega)
            · rw [if_neg (fun h => d6 (p4.mp h))]
              exact full (fun h => by unfold vkd at h; omega)
  have t3 : nI kd = 3 ↔ kd = 3 := nI_inj (m := 3) (by omega) (by omega)
  have t2 : nI kd ≤ 2 ↔ kd ≤ 2 := qI_le (m := 2) (by omega) (by omega)
  have t0 : nI kd ≤ 0 ↔ kd ≤ 0 := qI_le (m := 0) (by omega) (by omega)
  have a0 : I32 ag = 0 ↔ ag = 0 := I32_inj (b := 0) (by omega) (by omega) (by omega) (by omega)
  have a1 : 0 ≤ I32 ag ↔ 0 ≤ ag := I32_le (a := 0) (by omega) (by omega) (by omega) (by omega)
  have hdz : ∀ x : Int, Rat.divInt x q = 0 ↔ x = 0 := fun x => divInt_eq0 (by omega)
  have hng : ∀ x : Rat, -x = 0 ↔ x = 0 := fun x => ⟨fun h => by rw [← Rat.neg_neg x, h]; rfl, fun h => by rw [h]; rfl⟩
  have hs0 : s64 0 := by unfold s64; omega
  unfold f_X7_addTerm
  by_cases c : ag = 0
  ·
    have hk : nkey kd ag pw = ky 0 0 pw := by unfold nkey; rw [if_pos c]
    rw [hk] at b1 b2 b3
    have e24 : ∀ x : Int64, f_X7_addTerm_24 z (nI row) (nI kd) (I32 ag) (I32 pw) (I64 q) x (nI kd) (I32 ag) = f_X7_addTerm_37 z (nI row) (nI kd) (I32 ag) (I32 pw) (I64 q) x (nI kd) (I32 ag) := by
      intro x; unfold f_X7_addTerm_24
      by_cases d : kd ≤ 2
      · rw [if_pos (t2.mpr d)]
      · rw [if_neg (fun h => d (t2.mp h)), if_pos (a1.mpr (by omega))]
    have e1 : (if ¬ nI kd = 3 then f_X7_addTerm_24 z (nI row) (nI kd) (I32 ag) (I32 pw) (I64 q) (I64 p) (nI kd) (I32 ag) else if 0 ≤ I32 ag then f_X7_addTerm_24 z (nI row) (nI kd) (I32 ag) (I32 pw) (I64 q) (I64 p) (nI kd) (I32 ag) else (some (-(I64 p))).bind fun y_3 => f_X7_addTerm_24 z (nI row) (nI kd) (I32 ag) (I32 pw) (I64 q) y_3 (nI kd) (I32 ag)) = f_X7_addTerm_37 z (nI row) (nI kd) (I32 ag) (I32 pw) (I64 q) (I64 p) (nI kd) (I32 ag) := by
      rw [if_pos (a1.mpr (by omega)), e24]
      split <;> rfl
    rw [e1]
    unfold f_X7_addTerm_37 f_X7_addTerm_56
    by_cases d0 : kd ≤ 0
    · rw [if_pos (t0.mpr d0)]
      have : kd = 0 := by omega
      subst this
      subst c
      refine h64 0 0 p (by omega) (by omega) (by omega) (by omega) (by omega) (by omega) (by omega) hp hk b1 ?_ ?_
      · unfold dl nval; rw [hk, if_pos rfl, if_neg (by omega)]
      · unfold nval; rw [if_pos rfl, if_neg (by omega)]; exact hdz p
    · rw [if_neg (fun h => d0 (t0.mp h)), if_neg (fun h => h (a0.mpr c))]
      by_cases d3 : kd = 3
      · rw [if_neg (fun h => h (t3.mpr d3))]
        refine h64 0 0 0 (by omega) (by omega) (by omega) (by omega) (by omega) (by omega) (by omega) hs0 hk ?_ ?_ ?_
        · have h9 := b1
          have h8 := b2
          unfold s64 at h9 h8 ⊢
          have : (F (ky 0 0 pw)).num * q + 0 * (F (ky 0 0 pw)).den = (F (ky 0 0 pw)).num * q := by rw [Int.zero_mul, Int.add_zero]
          rw [this]
          rw [Int.neg_mul] at h8
          omega
        · unfold dl nval; rw [hk, if_pos c, if_pos d3, Rat.zero_divInt]
        · unfold nval; rw [if_pos c, if_pos d3]; simp
      · rw [if_pos (fun h => d3 (t3.mp h))]
        refine h64 0 0 p (by omega) (by omega) (by omega) (by omega) (by omega) (by omega) (by omega) hp hk b1 ?_ ?_
        · unfold dl nval; rw [hk, if_pos c, if_neg d3]
        · unfold nval; rw [if_pos c, if_neg d3]; exact hdz p
  · have h37 : ∀ (x9 : Int64) (x12 : Int32), f_X7_addTerm_37 z (nI row) (nI kd) (I32 ag) (I32 pw) (I64 q) x9 (nI kd) x12 = f_X7_addTerm_64 z (nI row) (I32 pw) (I64 q) x9 (nI kd) x12 := by
      intro x9 x12
      unfold f_X7_addTerm_37
      rw [if_pos (fun h => c (a0.mp h))]
      split <;> rfl
    by_cases cv : (kd = 3 ∨ kd = 4) ∧ ag < 0
    · have hk : nkey kd ag pw = ky kd (-ag) pw := by unfold nkey; rw [if_neg c, if_pos cv]
      rw [hk] at b1 b2 b3
      have e24 : ∀ x : Int64, f_X7_addTerm_24 z (nI row) (nI kd) (I32 ag) (I32 pw) (I64 q) x (nI kd) (I32 ag) = f_X7_addTerm_64 z (nI row) (I32 pw) (I64 q) x (nI kd) (I32 (-ag)) := by
        intro x; unfold f_X7_addTerm_24
        rw [if_neg (fun h => by have := t2.mp h; omega), if_neg (fun h => by have := a1.mp h; omega), Option.bind_some, I32_neg, h37]
      by_cases d3 : kd = 3
      · rw [if_neg (fun h => h (t3.mpr d3)), if_neg (fun h => by have := a1.mp h; omega), Option.bind_some, e24, I64_neg]
        refine h64 kd (-ag) (-p) o1 (by omega) (by omega) (by omega) (by omega) (by omega) (by omega) (by unfold s64 at hp ⊢; omega) hk b2 ?_ ?_
        · unfold dl nval; rw [hk, if_neg c, if_pos ⟨d3, cv.2⟩, Rat.neg_divInt]
        · unfold nval; rw [if_neg c, if_pos ⟨d3, cv.2⟩, hng, hdz]; omega
      · rw [if_pos (fun h => d3 (t3.mp h)), e24]
        refine h64 kd (-ag) p o1 (by omega) (by omega) (by omega) (by omega) (by omega) (by omega) hp hk b1 ?_ ?_
        · unfold dl nval; rw [hk, if_neg c, if_neg (fun h => d3 h.1)]
        · unfold nval; rw [if_neg c, if_neg (fun h => d3 h.1)]; exact hdz p
    · have hk : nkey kd ag pw = ky kd ag pw := by unfold nkey; rw [if_neg c, if_neg cv]
      rw [hk] at b1 b2 b3
      have e24 : ∀ x : Int64, f_X7_addTerm_24 z (nI row) (nI kd) (I32 ag) (I32 pw) (I64 q) x (nI kd) (I32 ag) = f_X7_addTerm_64 z (nI row) (I32 pw) (I64 q) x (nI kd) (I32 ag) := by
        intro x; unfold f_X7_addTerm_24
        by_cases d : kd ≤ 2
        · rw [if_pos (t2.mpr d), h37]
        · rw [if_neg (fun h => d (t2.mp h)), if_pos (a1.mpr (by omega)), h37]
      have e1 : (if ¬ nI kd = 3 then f_X7_addTerm_24 z (nI row) (nI kd) (I32 ag) (I32 pw) (I64 q) (I64 p) (nI kd) (I32 ag) else if 0 ≤ I32 ag then f_X7_addTerm_24 z (nI row) (nI kd) (I32 ag) (I32 pw) (I64 q) (I64 p) (nI kd) (I32 ag) else (some (-(I64 p))).bind fun y_3 => f_X7_addTerm_24 z (nI row) (nI kd) (I32 ag) (I32 pw) (I64 q) y_3 (nI kd) (I32 ag)) = f_X7_addTerm_64 z (nI row) (I32 pw) (I64 q) (I64 p) (nI kd) (I32 ag) := by
        by_cases d3 : kd = 3
        · rw [if_neg (fun h => h (t3.mpr d3)), if_pos (a1.mpr (by omega)), e24]
        · rw [if_pos (fun h => d3 (t3.mp h)), e24]
      rw [e1]
      refine h64 kd ag p o1 (by omega) (by omega) (by omega) (by omega) (by omega) (by omega) hp hk b1 ?_ ?_
      · unfold dl nval; rw [hk, if_neg c, if_neg (fun h => cv ⟨Or.inl h.1, h.2⟩)]
      · unfold nval; rw [if_neg c, if_neg (fun h => cv ⟨Or.inl h.1, h.2⟩)]; exact hdz p
set_option maxHeartbeats 1000000 in
set_option maxRecDepth 100000 in
theorem rRep_0 {z : MdS} {row : Nat} (h : ∀ c, c < 1150 → gM_up z (1150 * row + c) = 0 ∧ gM_down z (1150 * row + c) = 1) : rRep z row (fun _ => 0) := fun c hc => h c hc
set_option maxHeartbeats 1000000 in
set_option maxRecDepth 100000 in
theorem empty_loop (row : Nat) (hr : row < 10) : ∀ (d fu c : Nat) (z : MdS), c + d = 1150 → d < fu → (∀ j, j < c → gM_up z (1150 * row + j) = 0 ∧ gM_down z (1150 * row + j) = 1) →
    ∃ z', f_X7_empty_6 fu z (nI row) (nI (1150 * row + c)) = some z' ∧ rRep z' row (fun _ => 0) ∧ mSame z z' ∧ mRow z z' row ∧ gM_isFull z' = gM_isFull z ∧ gM_top z' = gM_top z ∧ gM_bottom z' = gM_bottom z := by
  intro d
  induction d with
  | zero =>
    intro fu c z hc hf hj
    obtain ⟨fu, rfl⟩ : ∃ f, fu = f + 1 := ⟨fu - 1, by omega⟩
    rw [f_X7_empty_6, row1_eq, if_pos ((qI_le (by omega) (by omega)).mpr (by omega))]
    exact ⟨z, rfl, rRep_0 (fun j h => hj j (by omega)), mSame.rfl' z, mRow.rfl' z row, rfl, rfl, rfl⟩
  | succ d ih =>
    intro fu c z hc hf hj
    obtain ⟨fu, rfl⟩ : ∃ f, fu = f + 1 := ⟨fu - 1, by omega⟩
    have e1 : inb (nI (1150 * row + c)) nUD = true := inU (by omega)
    have e2 : (nI (1150 * row + c)).toNatClampNeg = 1150 * row + c := nI_nat (by omega)
    rw [f_X7_empty_6, row1_eq, if_neg (fun h => by have := (qI_le (by omega) (by omega)).mp h; omega), if_pos e1, if_pos e1, e2, nI_add1]
    generalize hz9 : uM_down _ _ = z9
    have k1 : gM_up z9 = vp_updL (gM_up z) (1150 * row + c) 0 := by rw [← hz9]; rfl
    have k2 : gM_down z9 = vp_updL (gM_down z) (1150 * row + c) 1 := by rw [← hz9]; rfl
    have k3 : mSame z z9 := by rw [← hz9]; exact ⟨rfl, rfl, rfl, rfl, rfl, rfl, rfl, rfl⟩
    have k4 : gM_isFull z9 = gM_isFull z := by rw [← hz9]; rfl
    have k5 : gM_top z9 = gM_top z := by rw [← hz9]; rfl
    have k6 : gM_bottom z9 = gM_bottom z := by rw [← hz9]; rfl
    have k7 : mRow z z9 row := by
      intro j h; rw [k1, k2, updL_ne _ _ (by omega), updL_ne _ _ (by omega)]; exact ⟨rfl, rfl⟩
    obtain ⟨z', h1, h2, h3, h4, h5, h6, h7⟩ := ih fu (c + 1) z9 (by omega) (by omega) (by
      intro j h
      rw [k1, k2]
      by_cases e : j = c
      · subst e; rw [updL_self, updL_self]; exact ⟨rfl, rfl⟩
      · rw [updL_ne _ _ (by omega), updL_ne _ _ (by omega)]; exact hj j (by omega))
    exact ⟨z', h1, h2, k3.trans h3, k7.trans h4, h5.trans k4, h6.trans k5, h7.trans k6⟩
set_option maxHeartbeats 1000000 in
set_option maxRecDepth 100000 in
theorem empty_eq (z : MdS) (row : Nat) (hr : row < 10) : ∃ z', f_X7_empty z (nI row) = some z' ∧ rRep z' row (fun _ => 0) ∧ mSame z z' ∧ mRow z z' row ∧ gM_isFull z' = gM_isFull z ∧ gM_top z' = gM_top z ∧ gM_bottom z' = gM_bottom z := by
  unfold f_X7_empty
  rw [row0_eq, Option.bind_some]
  exact empty_loop row hr 1150 fuel 0 z (by omega) (by rw [fuel_eq]; omega) (fun j h => by omega)
set_option maxHeartbeats 1000000 in
set_option maxRecDepth 100000 in
theorem copy_loop (to fr : Nat) (ht : to < 10) (hf' : fr < 10) (hne : to ≠ fr) : ∀ (d fu c : Nat) (z : MdS), c + d = 1150 → d < fu → (∀ j, j < c → gM_up z (1150 * to + j) = gM_up z (1150 * fr + j) ∧ gM_down z (1150 * to + j) = gM_down z (1150 * fr + j)) →
    ∃ z', f_X7_copy_2 fu z (nI to) (nI fr) (nI c) = some z' ∧ (∀ j, j < 1150 → gM_up z' (1150 * to + j) = gM_up z (1150 * fr + j) ∧ gM_down z' (1150 * to + j) = gM_down z (1150 * fr + j)) ∧ mSame z z' ∧ mRow z z' to ∧ gM_isFull z' = gM_isFull z ∧ gM_top z' = gM_top z ∧ gM_bottom z' = gM_bottom z := by
  intro d
  induction d with
  | zero =>
    intro fu c z hc hf hj
    obtain ⟨fu, rfl⟩ : ∃ f, fu = f + 1 := ⟨fu - 1, by omega⟩
    rw [f_X7_copy_2, if_pos (show (1150 : Int32) ≤ nI c from (qI_le (n := 1150) (by omega) (by omega)).mpr (by omega))]
    exact ⟨z, rfl, fun j h => hj j (by omega), mSame.rfl' z, mRow.rfl' z to, rfl, rfl, rfl⟩
  | succ d ih =>
    intro fu c z hc hf hj
    obtain ⟨fu, rfl⟩ : ∃ f, fu = f + 1 := ⟨fu - 1, by omega⟩
    have e1 : inb (nI (1150 * to + c)) nUD = true := inU (by omega)
    have e2 : (nI (1150 * to + c)).toNatClampNeg = 1150 * to + c := nI_nat (by omega)
    have e3 : inb (nI (1150 * fr + c)) nUD = true := inU (by omega)
    have e4 : (nI (1150 * fr + c)).toNatClampNeg = 1150 * fr + c := nI_nat (by omega)
    rw [f_X7_copy_2, if_neg (show ¬ (1150 : Int32) ≤ nI c from fun h => by have := (qI_le (n := 1150) (by omega) (by omega)).mp h; omega), row_eq, row_eq]
    simp only [e1, e2, e3, e4, if_true]
    rw [nI_add1]
    generalize hz9 : uM_down _ _ = z9
    have k1 : gM_up z9 = vp_updL (gM_up z) (1150 * to + c) (gM_up z (1150 * fr + c)) := by rw [← hz9]; rfl
    have k2 : gM_down z9 = vp_updL (gM_down z) (1150 * to + c) (gM_down z (1150 * fr + c)) := by rw [← hz9]; rfl
    have k3 : mSame z z9 := by rw [← hz9]; exact ⟨rfl, rfl, rfl, rfl, rfl, rfl, rfl, rfl⟩
    have k4 : gM_isFull z9 = gM_isFull z := by rw [← hz9]; rfl
    have k5 : gM_top z9 = gM_top z := by rw [← hz9]; rfl
    have k6 : gM_bottom z9 = gM_bottom z := by rw [← hz9]; rfl
    have k7 : mRow z z9 to := by
      intro j h; rw [k1, k2, updL_ne _ _ (by omega), updL_ne _ _ (by omega)]; exact ⟨rfl, rfl⟩
    have k8 : ∀ j, j < 1150 → gM_up z9 (1150 * fr + j) = gM_up z (1150 * fr + j) ∧ gM_down z9 (1150 * fr + j) = gM_down z (1150 * fr + j) := by
      intro j h; rw [k1, k2, updL_ne _ _ (by omega), updL_ne _ _ (by omega)]; exact ⟨rfl, rfl⟩
    obtain ⟨z', h1, h2, h3, h4, h5, h6, h7⟩ := ih fu (c + 1) z9 (by omega) (by omega) (by
      intro j h
      rw [(k8 j (by omega)).1, (k8 j (by omega)).2, k1, k2]
      by_cases e : j = c
      · subst e; rw [updL_self, updL_self]; exact ⟨rfl, rfl⟩
      · rw [updL_ne _ _ (by omega), updL_ne _ _ (by omega)]; exact hj j (by omega))
    refine ⟨z', h1, fun j h => ?_, k3.trans h3, k7.trans h4, h5.trans k4, h6.trans k5, h7.trans k6⟩
    rw [← (k8 j h).1, ← (k8 j h).2]; exact h2 j h
set_option maxHeartbeats 1000000 in
set_option maxRecDepth 100000 in
theorem copy_eq (z : MdS) (to fr : Nat) (ht : to < 10) (hf : fr < 10) (hne : to ≠ fr) (F : Nat → Rat) (R : rRep z fr F) : ∃ z', f_X7_copy z (nI to) (nI fr) = some z' ∧ rRep z' to F ∧ mSame z z' ∧ mRow z z' to ∧ gM_isFull z' = gM_isFull z ∧ gM_top z' = gM_top z ∧ gM_bottom z' = gM_bottom z := by
  obtain ⟨z', h1, h2, h3, h4, h5, h6, h7⟩ := copy_loop to fr ht hf hne 1150 fuel 0 z (by omega) (by rw [fuel_eq]; omega) (fun j h => by omega)
  refine ⟨z', h1, fun c hc => ?_, h3, h4, h5, h6, h7⟩
  rw [(h2 c hc).1, (h2 c hc).2]; exact R c hc
def cnt (F : Nat → Rat) : Nat → Nat
  | 0 => 0
  | m + 1 => cnt F m + (if F (kc m) = 0 then 0 else 1)
set_option maxHeartbeats 1000000 in
set_option maxRecDepth 100000 in
theorem cnt_le (F : Nat → Rat) (m : Nat) : cnt F m ≤ m := by
  induction m with
  | zero => exact Nat.le_refl 0
  | succ m ih => rw [cnt]; split <;> omega
set_option maxHeartbeats 1000000 in
set_option maxRecDepth 100000 in
theorem cnt_list (F : Nat → Rat) (m : Nat) : cnt F m = ((List.range m).filter (fun c => decide (F (kc c) ≠ 0))).length := by
  induction m with
  | zero => rfl
  | succ m ih =>
    rw [cnt, List.range_succ, List.filter_append, List.length_append, ih]
    congr 1
    by_cases c : F (kc m) = 0
    · rw [if_pos c, List.filter_cons_of_neg (by simp [c])]; rfl
    · rw [if_neg c, List.filter_cons_of_pos (by simp [c])]; rfl
def okF (F : Nat → Rat) : Prop := ∀ k, s64 (F k).num ∧ (F k).den < 9223372036854775808
set_option maxHeartbeats 1000000 in
set_option maxRecDepth 100000 in
theorem num0 (v : Rat) (h : s64 v.num) : I64 v.num = 0 ↔ v = 0 := by rw [I64_eq0 h.r]; exact Rat.num_eq_zero
set_option maxHeartbeats 1000000 in
set_option maxRecDepth 100000 in
theorem termsOf_loop (z : MdS) (row : Nat) (hr : row < 10) (F : Nat → Rat) (R : rRep z row F) (hF : okF F) : ∀ (d fu c : Nat), c + d = 1150 → d < fu → f_X7_termsOf_8 z fu (nI row) (nI (cnt F c)) (nI (1150 * row + c)) = some (nI (cnt F 1150)) := by
  intro d
  induction d with
  | zero =>
    intro fu c hc hf
    obtain ⟨fu, rfl⟩ : ∃ f, fu = f + 1 := ⟨fu - 1, by omega⟩
    rw [f_X7_termsOf_8, row1_eq, if_pos ((qI_le (by omega) (by omega)).mpr (by omega)), show c = 1150 by omega]
  | succ d ih =>
    intro fu c hc hf
    obtain ⟨fu, rfl⟩ : ∃ f, fu = f + 1 := ⟨fu - 1, by omega⟩
    have e1 : inb (nI (1150 * row + c)) nUD = true := inU (by omega)
    have e2 : (nI (1150 * row + c)).toNatClampNeg = 1150 * row + c := nI_nat (by omega)
    rw [f_X7_termsOf_8, row1_eq, if_neg (fun h => by have := (qI_le (by omega) (by omega)).mp h; omega), if_pos e1, e2, (R c (by omega)).1]
    unfold f_X7_termsOf_39
    have h1 := ih fu (c + 1) (by omega) (by omega)
    by_cases h0 : F (kc c) = 0
    · rw [if_pos ((num0 _ (hF _).1).mpr h0), nI_add1]
      have : cnt F (c + 1) = cnt F c := by rw [cnt, if_pos h0, Nat.add_zero]
      rw [this] at h1; exact h1
    · rw [if_neg (fun h => h0 ((num0 _ (hF _).1).mp h)), nI_add1, nI_add1]
      have : cnt F (c + 1) = cnt F c + 1 := by rw [cnt, if_neg h0]
      rw [this] at h1; exact h1
set_option maxHeartbeats 1000000 in
set_option maxRecDepth 100000 in
theorem termsOf_eq (z : MdS) (row : Nat) (hr : row < 10) (F : Nat → Rat) (R : rRep z row F) (hF : okF F) : f_X7_termsOf z (nI row) = some (nI (cnt F 1150)) := by
  unfold f_X7_termsOf
  rw [row0_eq, Option.bind_some]
  exact termsOf_loop z row hr F R hF 1150 fuel 0 (by omega) (by rw [fuel_eq]; omega)
set_option maxHeartbeats 1000000 in
set_option maxRecDepth 100000 in
theorem cnt_size {z : SumS} {n : Nat} {K : Nat → Nat} {F : Nat → Rat} (R : sRep z n K F) (hv : ∀ k, F k ≠ 0 → vk k) : cnt F 1150 = n := by
  rw [cnt_list]
  have hp : ((List.range 1150).filter (fun c => decide (F (kc c) ≠ 0))).Perm ((List.range n).map (fun i => ck (K i))) := by
    rw [List.perm_ext_iff_of_nodup (List.nodup_iff_pairwise_ne.mpr ((List.nodup_iff_pairwise_ne.mp List.nodup_range).filter _))]
    · intro c
      simp only [List.mem_filter, List.mem_range, List.mem_map, decide_eq_true_eq]
      constructor
      · intro ⟨h1, h2⟩
        obtain ⟨i, hi, e⟩ := R.2.2.2.2.2.2 _ h2
        exact ⟨i, hi, by rw [e, ck_kc h1]⟩
      · intro ⟨i, hi, e⟩
        obtain ⟨c', hc', e'⟩ := hv _ (R.2.2.2.2.2.1 i hi).1
        rw [← e', ck_kc hc'] at e
        subst e
        exact ⟨hc', by rw [e']; exact (R.2.2.2.2.2.1 i hi).1⟩
    · rw [List.nodup_iff_pairwise_ne, List.pairwise_map]
      refine List.Pairwise.imp_of_mem ?_ (List.nodup_iff_pairwise_ne.mp List.nodup_range)
      intro i j hi hj hne e
      have hi := List.mem_range.mp hi
      have hj := List.mem_range.mp hj
      obtain ⟨c, hc, e1⟩ := hv _ (R.2.2.2.2.2.1 i hi).1
      obtain ⟨d, hd, e2⟩ := hv _ (R.2.2.2.2.2.1 j hj).1
      rw [← e1, ← e2, ck_kc hc, ck_kc hd] at e
      exact hne (R.inj hi hj (by rw [← e1, ← e2, e]))
  rw [hp.length_eq, List.length_map, List.length_range]
def inB (v : Rat) : Prop := v.num.natAbs ≤ 10000000000 ∧ v.den ≤ 100000
set_option maxHeartbeats 1000000 in
set_option maxRecDepth 100000 in
theorem isOut_eq (z : MdS) (j : Nat) (hj : j < 11500) (v : Rat) (h1 : gM_up z j = I64 v.num) (h2 : gM_down z j = I64 (v.den : Int)) (hs : s64 v.num) (hd : v.den < 9223372036854775808) : ∃ r, f_X7_isOut z (nI j) = some r ∧ (r = 0 ∨ r = 1) ∧ (r = 0 ↔ inB v) := by
  unfold f_X7_isOut f_X7_isOut_39
  have e1 : inb (nI j) nUD = true := inU hj
  have e2 : (nI j).toNatClampNeg = j := nI_nat (by omega)
  simp only [e1, e2, if_true]
  rw [h1, h2]
  have p1 : (10000000000 : Int64) < I64 v.num ↔ 10000000000 < v.num := I64_lt (a := 10000000000) (by unfold r64; omega) hs.r
  have p2 : I64 v.num < (-10000000000 : Int64) ↔ v.num < -10000000000 := by
    rw [show (-10000000000 : Int64) = I64 (-10000000000) by decide]; exact I64_lt hs.r (by unfold r64; omega)
  have p3 : I64 (v.den : Int) ≤ (100000 : Int64) ↔ (v.den : Int) ≤ 100000 := I64_le (b := 100000) (nn_r64 hd) (by unfold r64; omega)
  unfold inB
  by_cases c1 : 10000000000 < v.num
  · rw [if_pos (p1.mpr c1)]
    exact ⟨1, rfl, Or.inr rfl, ⟨fun h => absurd h (by decide), fun h => by omega⟩⟩
  rw [if_neg (fun h => c1 (p1.mp h))]
  by_cases c2 : v.num < -10000000000
  · rw [if_pos (p2.mpr c2)]
    exact ⟨1, rfl, Or.inr rfl, ⟨fun h => absurd h (by decide), fun h => by omega⟩⟩
  rw [if_neg (fun h => c2 (p2.mp h))]
  by_cases c3 : (v.den : Int) ≤ 100000
  · rw [if_pos (p3.mpr c3)]
    exact ⟨0, rfl, Or.inl rfl, ⟨fun _ => by omega, fun _ => rfl⟩⟩
  · rw [if_neg (fun h => c3 (p3.mp h))]
    exact ⟨1, rfl, Or.inr rfl, ⟨fun h => absurd h (by decide), fun h => by omega⟩⟩
set_option maxHeartbeats 1000000 in
set_option maxRecDepth 100000 in
theorem mfits_loop (z : MdS) (row : Nat) (hr : row < 10) (F : Nat → Rat) (R : rRep z row F) (hF : okF F) : ∀ (d fu c : Nat) (v : Int32), c + d = 1150 → d < fu → (v = 0 ∨ v = 1) → ∃ r, f_X7_fits_29 z fu (nI row) v (nI (1150 * row + c)) = some r ∧ (r = 0 ∨ r = 1) ∧ (r = 1 ↔ (v = 1 ∧ ∀ j, c ≤ j → j < 1150 → inB (F (kc j)))) := by
  intro d
  induction d with
  | zero =>
    intro fu c v hc hf hv
    obtain ⟨fu, rfl⟩ : ∃ f, fu = f + 1 := ⟨fu - 1, by omega⟩
    rw [f_X7_fits_29, row1_eq, if_pos ((qI_le (by omega) (by omega)).mpr (by omega))]
    have hz : zb v = true := by rcases hv with rfl | rfl <;> rfl
    rw [if_pos hz]
    exact ⟨v, rfl, hv, ⟨fun h => ⟨h, fun j h1 h2 => by omega⟩, fun h => h.1⟩⟩
  | succ d ih =>
    intro fu c v hc hf hv
    obtain ⟨fu, rfl⟩ : ∃ f, fu = f + 1 := ⟨fu - 1, by omega⟩
    rw [f_X7_fits_29, row1_eq, if_neg (fun h => by have := (qI_le (by omega) (by omega)).mp h; omega)]
    unfold f_X7_fits_58 f_X7_fits_59
    rw [nI_add1]
    rcases hv with rfl | rfl
    · rw [if_pos rfl]
      obtain ⟨r, h1, h2, h3⟩ := ih fu (c + 1) 0 (by omega) (by omega) (Or.inl rfl)
      refine ⟨r, h1, h2, ⟨fun h => absurd (h3.mp h).1 (by decide), fun h => absurd h.1 (by decide)⟩⟩
    · rw [if_neg (by decide)]
      obtain ⟨r0, q1, q2, q3⟩ := isOut_eq z (1150 * row + c) (by omega) (F (kc c)) (R c (by omega)).1 (R c (by omega)).2 (hF _).1 (hF _).2
      rw [q1, Option.bind_some]
      by_cases c0 : r0 = 0
      · rw [if_neg (by simp [c0])]
        obtain ⟨r, h1, h2, h3⟩ := ih fu (c + 1) 1 (by omega) (by omega) (Or.inr rfl)
        refine ⟨r, h1, h2, h3.trans ⟨fun h => ⟨rfl, fun j hj hj' => ?_⟩, fun h => ⟨rfl, fun j hj hj' => h.2 j (by omega) hj'⟩⟩⟩
        by_cases e : j = c
        · subst e; exact q3.mp c0
        · exact h.2 j (by omega) hj'
      · rw [if_pos c0]
        obtain ⟨r, h1, h2, h3⟩ := ih fu (c + 1) 0 (by omega) (by omega) (Or.inl rfl)
        refine ⟨r, h1, h2, ⟨fun h => absurd (h3.mp h).1 (by decide), fun h => absurd (q3.mpr (h.2 c (Nat.le_refl _) (by omega))) c0⟩⟩
set_option maxHeartbeats 1000000 in
set_option maxRecDepth 100000 in
theorem mfits_eq (z : MdS) (row : Nat) (hr : row < 10) (F : Nat → Rat) (R : rRep z row F) (hF : okF F) : ∃ r, f_X7_fits z (nI row) = some r ∧ (r = 0 ∨ r = 1) ∧ (r = 1 ↔ (gM_isFull z = 0 ∧ cnt F 1150 ≤ 40 ∧ ∀ j, j < 1150 → inB (F (kc j)))) := by
  unfold f_X7_fits f_X7_fits_21 f_X7_fits_22
  rw [termsOf_eq z row hr F R hF, row0_eq, Option.bind_some, Option.bind_some, Option.bind_some]
  have p1 : (40 : Int32) < nI (cnt F 1150) ↔ 40 < cnt F 1150 := qI_lt (n := 40) (by omega) (by have := cnt_le F 1150; omega)
  have L := fun v hv => mfits_loop z row hr F R hF 1150 fuel 0 v (by omega) (by rw [fuel_eq]; omega) hv
  by_cases c1 : gM_isFull z = 0
  · rw [if_neg (by simp [c1])]
    by_cases c2 : 40 < cnt F 1150
    · rw [if_pos (p1.mpr c2)]
      obtain ⟨r, h1, h2, h3⟩ := L 0 (Or.inl rfl)
      exact ⟨r, h1, h2, ⟨fun h => absurd (h3.mp h).1 (by decide), fun h => by omega⟩⟩
    · rw [if_neg (fun h => c2 (p1.mp h))]
      obtain ⟨r, h1, h2, h3⟩ := L 1 (Or.inr rfl)
      exact ⟨r, h1, h2, h3.trans ⟨fun h => ⟨c1, by omega, fun j hj => h.2 j (by omega) hj⟩, fun h => ⟨rfl, fun j _ hj => h.2.2 j hj⟩⟩⟩
  · rw [if_pos c1]
    obtain ⟨r, h1, h2, h3⟩ := L 0 (Or.inl rfl)
    exact ⟨r, h1, h2, ⟨fun h => absurd (h3.mp h).1 (by decide), fun h => absurd h.1 c1⟩⟩
set_option maxHeartbeats 1000000 in
set_option maxRecDepth 100000 in
theorem kc_pw {c : Nat} (h : c < 1150) : pwK (kc c) = (c % 25 : Nat) - 12 := by unfold kc; exact pwK_ky (kc_ok h)
set_option maxHeartbeats 1000000 in
set_option maxRecDepth 100000 in
theorem kc_ag {c : Nat} (h : c < 1150) : agK (kc c) = ctF (c / 25) := by unfold kc; exact agK_ky (kc_ok h)
set_option maxHeartbeats 1000000 in
set_option maxRecDepth 100000 in
theorem kc_kd {c : Nat} (h : c < 1150) : kdK (kc c) = kdF (c / 25) := by unfold kc; exact kdK_ky (kc_ok h)
def smC (F : Nat → Rat) (c : Nat) : Prop := F (kc c) ≠ 0 → wiK F 100 6 4 3 (kc c)
set_option maxHeartbeats 1000000 in
set_option maxRecDepth 100000 in
theorem countOf_r {f : Nat} (h : f < 46) : -9 ≤ ctF f ∧ ctF f ≤ 9 := by
  rcases kdF_cases f h with x | x | x | x | x | x <;> omega
set_option maxHeartbeats 1000000 in
set_option maxRecDepth 100000 in
theorem msmall_in (z : MdS) (row : Nat) (hr : row < 8) (F : Nat → Rat) (R : rRep z row F) (hF : okF F) (kb : Int32 → Int32 → Int32 → Option Int32) (f : Nat) (hf : f < 46) : ∀ (d fu e : Nat) (v : Int32), e + d = 25 → d < fu → (v = 0 ∨ v = 1) →
    ∃ v', (v' = 0 ∨ v' = 1) ∧ f_X7_isSmall_14 z kb fu (nI row) v (nI f) (I32 ((e : Int) - 12)) = kb (nI row) v' (nI (f + 1)) ∧ (v' = 1 ↔ v = 1 ∧ ∀ j, e ≤ j → j < 25 → smC F (25 * f + j)) := by
  intro d
  induction d with
  | zero =>
    intro fu e v he hfu hv
    obtain ⟨fu, rfl⟩ : ∃ f, fu = f + 1 := ⟨fu - 1, by omega⟩
    rw [f_X7_isSmall_14, if_pos (show (13 : Int32) ≤ I32 ((e : Int) - 12) from (I32_le (a := 13) (by omega) (by omega) (by omega) (by omega)).mpr (by omega)), nI_add1]
    exact ⟨v, hv, rfl, ⟨fun h => ⟨h, fun j h1 h2 => by omega⟩, fun h => h.1⟩⟩
  | succ d ih =>
    intro fu e v he hfu hv
    obtain ⟨fu, rfl⟩ : ∃ f, fu = f + 1 := ⟨fu - 1, by omega⟩
    have hi : (((((1150 : Int32) * nI row) + ((25 : Int32) * nI f)) + I32 ((e : Int) - 12)) + (12 : Int32)) = nI (1150 * row + (25 * f + e)) := by
      rw [idx_eq row f _ (by omega)]; congr 1; omega
    have hc : 25 * f + e < 1150 := by omega
    have e1 : inb (nI (1150 * row + (25 * f + e))) nUD = true := inU (by omega)
    have e2 : (nI (1150 * row + (25 * f + e))).toNatClampNeg = 1150 * row + (25 * f + e) := nI_nat (by omega)
    rw [f_X7_isSmall_14, if_neg (show ¬ (13 : Int32) ≤ I32 ((e : Int) - 12) from fun h => by have := (I32_le (a := 13) (by omega) (by omega) (by omega) (by omega)).mp h; omega), hi, Option.bind_some]
    unfold f_X7_isSmall_136 f_X7_isSmall_137 f_X7_isSmall_138
    have hx : I32 ((e : Int) - 12) + 1 = I32 (((e + 1 : Nat) : Int) - 12) := by
      have : (1 : Int32) = I32 1 := rfl
      rw [this, I32_add]; congr 1; omega
    rw [hx]
    simp only [e1, e2, if_true]
    rw [(R _ hc).1, (R _ hc).2, (kindOf_eq ⟨f, hf⟩).2, Option.bind_some]
    have hcr := countOf_r hf
    have hpw : pwK (kc (25 * f + e)) = (e : Int) - 12 := by rw [kc_pw hc]; omega
    have hag : agK (kc (25 * f + e)) = ctF f := by rw [kc_ag hc]; congr 1; omega
    have hs := hF (kc (25 * f + e))
    have hsm : smC F (25 * f + e) ↔ (F (kc (25 * f + e)) ≠ 0 → (F (kc (25 * f + e))).num.natAbs ≤ 100 ∧ (F (kc (25 * f + e))).den ≤ 6 ∧ ((e : Int) - 12).natAbs ≤ 4 ∧ (ctF f).natAbs ≤ 3) := by
      unfold smC wiK; rw [hpw, hag]
    generalize F (kc (25 * f + e)) = v0 at *
    have down : (v = 1 → ¬ smC F (25 * f + e)) → ∃ v', (v' = 0 ∨ v' = 1) ∧ f_X7_isSmall_14 z kb fu (nI row) 0 (nI f) (I32 (((e + 1 : Nat) : Int) - 12)) = kb (nI row) v' (nI (f + 1)) ∧ (v' = 1 ↔ v = 1 ∧ ∀ j, e ≤ j → j < 25 → smC F (25 * f + j)) := by
      intro hn
      obtain ⟨v', h1, h2, h3⟩ := ih fu (e + 1) 0 (by omega) (by omega) (Or.inl rfl)
      exact ⟨v', h1, h2, ⟨fun h => absurd (h3.mp h).1 (by decide), fun h => absurd (h.2 e (Nat.le_refl _) (by omega)) (hn h.1)⟩⟩
    have same : smC F (25 * f + e) → ∃ v', (v' = 0 ∨ v' = 1) ∧ f_X7_isSmall_14 z kb fu (nI row) v (nI f) (I32 (((e + 1 : Nat) : Int) - 12)) = kb (nI row) v' (nI (f + 1)) ∧ (v' = 1 ↔ v = 1 ∧ ∀ j, e ≤ j → j < 25 → smC F (25 * f + j)) := by
      intro hy
      obtain ⟨v', h1, h2, h3⟩ := ih fu (e + 1) v (by omega) (by omega) hv
      refine ⟨v', h1, h2, h3.trans ⟨fun h => ⟨h.1, fun j hj hj' => ?_⟩, fun h => ⟨h.1, fun j hj hj' => h.2 j (by omega) hj'⟩⟩⟩
      by_cases ee : j = e
      · subst ee; exact hy
      · exact h.2 j (by omega) hj'
    by_cases c0 : v0 = 0
    · rw [if_neg (fun h => h ((num0 _ hs.1).mpr c0))]
      exact same (hsm.mpr (fun h => absurd c0 h))
    rw [if_pos (fun h => c0 ((num0 _ hs.1).mp h))]
    rcases hv with rfl | rfl
    · rw [if_pos rfl]; exact down (fun h => absurd h (by decide))
    rw [if_neg (show ¬ (1 : Int32) = 0 by decide)]
    have p1 : (100 : Int64) < I64 v0.num ↔ 100 < v0.num := I64_lt (a := 100) (by unfold r64; omega) hs.1.r
    have p2 : I64 v0.num < (-100 : Int64) ↔ v0.num < -100 := by
      rw [show (-100 : Int64) = I64 (-100) by decide]; exact I64_lt hs.1.r (by unfold r64; omega)
    have p3 : (6 : Int64) < I64 (v0.den : Int) ↔ 6 < (v0.den : Int) := I64_lt (a := 6) (by unfold r64; omega) (nn_r64 hs.2)
    have p4 : (4 : Int32) < I32 ((e : Int) - 12) ↔ 4 < (e : Int) - 12 := I32_lt (a := 4) (by omega) (by omega) (by omega) (by omega)
    have p5 : I32 ((e : Int) - 12) < (-4 : Int32) ↔ (e : Int) - 12 < -4 := by
      rw [show (-4 : Int32) = I32 (-4) by decide]; exact I32_lt (by omega) (by omega) (by omega) (by omega)
    have p6 : (3 : Int32) < I32 (ctF f) ↔ 3 < ctF f := I32_lt (a := 3) (by omega) (by omega) (by omega) (by omega)
    have p7 : I32 (ctF f) < (-3 : Int32) ↔ ctF f < -3 := by
      rw [show (-3 : Int32) = I32 (-3) by decide]; exact I32_lt (by omega) (by omega) (by omega) (by omega)
    by_cases c1 : 100 < v0.num
    · rw [if_pos (p1.mpr c1)]; exact down (fun _ h => by have := (hsm.mp h) c0; omega)
    rw [if_neg (fun h => c1 (p1.mp h))]
    by_cases c2 : v0.num < -100
    · rw [if_pos (p2.mpr c2)]; exact down (fun _ h => by have := (hsm.mp h) c0; omega)
    rw [if_neg (fun h => c2 (p2.mp h))]
    by_cases c3 : 6 < (v0.den : Int)
    · rw [if_pos (p3.mpr c3)]; exact down (fun _ h => by have := (hsm.mp h) c0; omega)
    rw [if_neg (fun h => c3 (p3.mp h))]
    by_cases c4 : 4 < (e : Int) - 12
    · rw [if_pos (p4.mpr c4)]; exact down (fun _ h => by have := (hsm.mp h) c0; omega)
    rw [if_neg (fun h => c4 (p4.mp h))]
    by_cases c5 : (e : Int) - 12 < -4
    · rw [if_pos (p5.mpr c5)]; exact down (fun _ h => by have := (hsm.mp h) c0; omega)
    rw [if_neg (fun h => c5 (p5.mp h))]
    by_cases c6 : 3 < ctF f
    · rw [if_pos (p6.mpr c6)]; exact down (fun _ h => by have := (hsm.mp h) c0; omega)
    rw [if_neg (fun h => c6 (p6.mp h))]
    by_cases c7 : ctF f < -3
    · rw [if_pos (p7.mpr c7)]; exact down (fun _ h => by have := (hsm.mp h) c0; omega)
    rw [if_neg (fun h => c7 (p7.mp h))]
    exact same (hsm.mpr (fun _ => by omega))
set_option maxHeartbeats 1000000 in
set_option maxRecDepth 100000 in
theorem msmall_out (z : MdS) (row : Nat) (hr : row < 8) (F : Nat → Rat) (R : rRep z row F) (hF : okF F) : ∀ (d fu f : Nat) (v : Int32), f + d = 46 → d < fu → (v = 0 ∨ v = 1) →
    ∃ r, f_X7_isSmall_4 z fu (nI row) v (nI f) = some r ∧ (r = 0 ∨ r = 1) ∧ (r = 1 ↔ v = 1 ∧ ∀ c, 25 * f ≤ c → c < 1150 → smC F c) := by
  intro d
  induction d with
  | zero =>
    intro fu f v hf hfu hv
    obtain ⟨fu, rfl⟩ : ∃ f, fu = f + 1 := ⟨fu - 1, by omega⟩
    have hz : zb v = true := by rcases hv with rfl | rfl <;> rfl
    rw [f_X7_isSmall_4, if_pos (show (46 : Int32) ≤ nI f from (qI_le (n := 46) (by omega) (by omega)).mpr (by omega)), if_pos hz]
    exact ⟨v, rfl, hv, ⟨fun h => ⟨h, fun c h1 h2 => by omega⟩, fun h => h.1⟩⟩
  | succ d ih =>
    intro fu f v hf hfu hv
    obtain ⟨fu, rfl⟩ : ∃ f, fu = f + 1 := ⟨fu - 1, by omega⟩
    rw [f_X7_isSmall_4, if_neg (show ¬ (46 : Int32) ≤ nI f from fun h => by have := (qI_le (n := 46) (by omega) (by omega)).mp h; omega)]
    obtain ⟨v', h1, h2, h3⟩ := msmall_in z row hr F R hF (fun x1_ x2_ x3_ => f_X7_isSmall_4 z fu x1_ x2_ x3_) f (by omega) 25 fuel 0 v (by omega) (by rw [fuel_eq]; omega) hv
    have h2' : f_X7_isSmall_14 z (fun x1_ x2_ x3_ => f_X7_isSmall_4 z fu x1_ x2_ x3_) fuel (nI row) v (nI f) (-12 : Int32) = f_X7_isSmall_4 z fu (nI row) v' (nI (f + 1)) := h2
    rw [h2']
    obtain ⟨r, g1, g2, g3⟩ := ih fu (f + 1) v' (by omega) (by omega) h1
    refine ⟨r, g1, g2, g3.trans ?_⟩
    rw [h3]
    constructor
    · intro ⟨⟨a1, a2⟩, a3⟩
      refine ⟨a1, fun c hc hc' => ?_⟩
      by_cases cc : c < 25 * (f + 1)
      · have := a2 (c - 25 * f) (by omega) (by omega)
        rw [show 25 * f + (c - 25 * f) = c by omega] at this; exact this
      · exact a3 c (by omega) hc'
    · intro ⟨a1, a2⟩
      exact ⟨⟨a1, fun j _ hj => a2 _ (by omega) (by omega)⟩, fun c hc hc' => a2 c (by omega) hc'⟩
set_option maxHeartbeats 1000000 in
set_option maxRecDepth 100000 in
theorem msmall_eq (z : MdS) (row : Nat) (hr : row < 8) (F : Nat → Rat) (R : rRep z row F) (hF : okF F) : ∃ r, f_X7_isSmall z (nI row) = some r ∧ (r = 0 ∨ r = 1) ∧ (r = 1 ↔ ∀ c, c < 1150 → smC F c) := by
  obtain ⟨r, h1, h2, h3⟩ := msmall_out z row hr F R hF 46 fuel 0 1 (by omega) (by rw [fuel_eq]; omega) (Or.inr rfl)
  exact ⟨r, h1, h2, h3.trans ⟨fun h c hc => h.2 c (by omega) hc, fun h => ⟨rfl, fun c _ hc => h c hc⟩⟩⟩
def slR (z : SumS) (zM : MdS) (row : Nat) : Prop := ∃ n K F, sRep z n K F ∧ rRep zM row F ∧ gS_ov z = 0 ∧ n ≤ 40 ∧ ∀ k, F k ≠ 0 → vk k ∧ inB (F k)
def lnR (zL : LineS) (zM : MdS) : Prop := ∃ n, n ≤ 100 ∧ gL_len zL = nI n ∧ gM_lineSize zM = nI n ∧ ∀ i, i < n → gL_ch zL i = gM_line zM i ∧ ∃ c, 1 ≤ c ∧ c < 256 ∧ gM_line zM i = nI c
def otR (zW : WrS) (zM : MdS) : Prop := ∃ n, n ≤ 1200 ∧ gW_len zW = nI n ∧ gM_outSize zM = nI n ∧ ∀ i, i < n → gW_ch zW i = gM_out zM i ∧ ∃ c, c < 256 ∧ gM_out zM i = nI c
def Sim (zD : DeskS) (zM : MdS) : Prop := (∀ s, s < 8 → slR (gD_slots zD s) zM s) ∧ lnR (gD_line zD) zM ∧ otR (gD_wr zD) zM ∧ gR_place (gD_rd zD) = gM_wrongPlace zM
def dSame (z w : DeskS) : Prop := gD_line w = gD_line z ∧ gD_rd w = gD_rd z ∧ gD_wr w = gD_wr z
set_option maxHeartbeats 1000000 in
set_option maxRecDepth 100000 in
theorem Sim.keep {zD wD : DeskS} {zM wM : MdS} (h : Sim zD zM) (hd : dSame zD wD) (hm : mSame zM wM) (hs : ∀ s, s < 8 → slR (gD_slots wD s) wM s) : Sim wD wM := by
  obtain ⟨-, h2, h3, h4⟩ := h
  obtain ⟨d1, d2, d3⟩ := hd
  obtain ⟨m1, m2, m3, m4, m5, m6, m7, m8⟩ := hm
  refine ⟨hs, ?_, ?_, ?_⟩
  · unfold lnR at *; rw [d1, m2, m7]; exact h2
  · unfold otR at *; rw [d3, m3, m8]; exact h3
  · rw [d2, m4]; exact h4
set_option maxHeartbeats 1000000 in
set_option maxRecDepth 100000 in
theorem slR.keep {z : SumS} {zM wM : MdS} {row r : Nat} (h : slR z zM row) (g : mRow zM wM r) (hne : row ≠ r) : slR z wM row := by
  obtain ⟨n, K, F, a, b, c, d, e⟩ := h
  exact ⟨n, K, F, a, b.keep g hne, c, d, e⟩
set_option maxHeartbeats 1000000 in
set_option maxRecDepth 100000 in
theorem okF_of {F : Nat → Rat} (h : ∀ k, F k ≠ 0 → vk k ∧ inB (F k)) : okF F := by
  intro k
  by_cases c : F k = 0
  · rw [c]; unfold s64; decide
  · have := (h k c).2
    unfold inB at this; unfold s64; omega
abbrev wfk (k : Nat) : Prop := (kdK k = 0 ∧ agK k = 0) ∨ (kdK k = 1 ∧ 1 ≤ agK k) ∨ (kdK k = 2 ∧ agK k ≠ 0) ∨ ((kdK k = 3 ∨ kdK k = 4) ∧ 1 ≤ agK k)
set_option maxHeartbeats 1000000 in
set_option maxRecDepth 100000 in
theorem vk_wfk {k : Nat} : vk k ↔ wfk k ∧ (pwK k).natAbs ≤ 12 ∧ (agK k).natAbs ≤ 9 := by
  constructor
  · intro h
    have := (vk_dec h).1
    unfold vkd at this; unfold wfk; omega
  · intro ⟨h1, h2, h3⟩
    apply vk_of
    unfold wfk at h1; unfold vkd; omega
set_option maxHeartbeats 1000000 in
set_option maxRecDepth 100000 in
theorem isSlot6_eq (a : Int32) : ∃ r, f_X6_isSlot a = some r ∧ f_X7_isSlot a = some r ∧ (r = 0 ∨ r = 1) ∧ (r = 1 ↔ ∃ s, s < 8 ∧ a = nI s) := by
  unfold f_X6_isSlot f_X7_isSlot
  have hx := I32_of a
  have l1 := Int32.le_toInt a
  have l2 := Int32.toInt_lt a
  generalize a.toInt = x at *
  subst hx
  have p1 : I32 x < 0 ↔ x < 0 := I32_lt (b := 0) (by omega) (by omega) (by omega) (by omega)
  have p2 : (8 : Int32) ≤ I32 x ↔ 8 ≤ x := I32_le (a := 8) (by omega) (by omega) (by omega) (by omega)
  have no : ¬ (0 ≤ x ∧ x < 8) → ¬ ∃ s, s < 8 ∧ I32 x = nI s := by
    intro h ⟨s, hs, e⟩
    rw [← I32_nI] at e
    have := (I32_inj (by omega) (by omega) (by omega) (by omega)).mp e
    omega
  by_cases c1 : x < 0
  · rw [if_pos (p1.mpr c1)]
    exact ⟨0, rfl, rfl, Or.inl rfl, ⟨fun h => absurd h (by decide), fun h => absurd h (no (by omega))⟩⟩
  · rw [if_neg (fun h => c1 (p1.mp h))]
    by_cases c2 : 8 ≤ x
    · rw [if_pos (p2.mpr c2)]
      exact ⟨0, rfl, rfl, Or.inl rfl, ⟨fun h => absurd h (by decide), fun h => absurd h (no (by omega))⟩⟩
    · rw [if_neg (fun h => c2 (p2.mp h))]
      refine ⟨1, rfl, rfl, Or.inr rfl, ⟨fun _ => ⟨x.toNat, by omega, ?_⟩, fun _ => rfl⟩⟩
      rw [← I32_nI]; congr 1; omega
set_option maxHeartbeats 1000000 in
set_option maxRecDepth 100000 in
theorem fits_both {w : SumS} {nS : Nat} {row : Nat} {zM : MdS} {n : Nat} {K : Nat → Nat} {F : Nat → Rat} (hS : nS ≤ 200) (hrow : row < 10) (R : sRep w n K F) (hN : n ≤ nS) (ho : gS_ov w = 0) (Rm : rRep zM row F) (hF : okF F) (hwf : ∀ k, F k ≠ 0 → wfk k) (hfull : gM_isFull zM = 0 ↔ ∀ k, F k ≠ 0 → vk k) :
    ∃ r, f_X4_fits nS w = some r ∧ f_X7_fits zM (nI row) = some r ∧ (r = 0 ∨ r = 1) ∧ (r = 1 → n ≤ 40 ∧ cnt F 1150 = n ∧ ∀ k, F k ≠ 0 → vk k ∧ inB (F k)) := by
  obtain ⟨r, h1, h2, h3⟩ := fits_eq nS hS w n K F R hN hF
  obtain ⟨r', g1, g2, g3⟩ := mfits_eq zM row hrow F Rm hF
  have key : r = 1 ↔ r' = 1 := by
    rw [h3, g3]
    constructor
    · intro ⟨_, a2, a3⟩
      have hv : ∀ k, F k ≠ 0 → vk k := by
        intro k hk
        obtain ⟨i, hi, e⟩ := R.2.2.2.2.2.2 k hk
        have := a3 i hi
        rw [e] at this
        exact vk_wfk.mpr ⟨hwf k hk, this.2.2.1, this.2.2.2⟩
      refine ⟨hfull.mpr hv, by rw [cnt_size R hv]; exact a2, fun c hc => ?_⟩
      by_cases c0 : F (kc c) = 0
      · rw [c0]; unfold inB; decide
      · obtain ⟨i, hi, e⟩ := R.2.2.2.2.2.2 _ c0
        have := a3 i hi
        rw [e] at this
        exact ⟨this.1, this.2.1⟩
    · intro ⟨b1, b2, b3⟩
      have hv := hfull.mp b1
      rw [cnt_size R hv] at b2
      refine ⟨ho, b2, fun j hj => ?_⟩
      have hk := (R.2.2.2.2.2.1 j hj).1
      have hvk := hv _ hk
      obtain ⟨c, hc, e⟩ := id hvk
      have := b3 c hc
      rw [e] at this
      have h9 := vk_wfk.mp hvk
      exact ⟨this.1, this.2, h9.2.1, h9.2.2⟩
  have hrr : r = r' := by
    rcases h2 with rfl | rfl
    · rcases g2 with rfl | rfl
      · rfl
      · exact absurd (key.mpr rfl) (by decide)
    · exact (key.mp rfl).symm
  subst hrr
  refine ⟨r, h1, g1, h2, fun h => ?_⟩
  obtain ⟨b1, b2, b3⟩ := g3.mp h
  have hv := hfull.mp b1
  rw [cnt_size R hv] at b2
  refine ⟨b2, cnt_size R hv, fun k hk => ?_⟩
  obtain ⟨c, hc, e⟩ := hv k hk
  exact ⟨hv k hk, by rw [← e]; exact b3 c hc⟩
set_option maxHeartbeats 1000000 in
set_option maxRecDepth 100000 in
theorem slot_set (zD : DeskS) (j : Nat) (v : SumS) (s : Nat) : gD_slots (uD_slot zD j v) s = if s = j then v else gD_slots zD s := rfl
set_option maxHeartbeats 1000000 in
set_option maxRecDepth 100000 in
theorem settle_both {zD : DeskS} {zM : MdS} {to n : Nat} {K : Nat → Nat} {F : Nat → Rat} (ht : to < 8) (hs : ∀ s, s < 8 → slR (gD_slots zD s) zM s) (R : sRep (gD_work zD) n K F) (hN : n ≤ 200) (ho : gS_ov (gD_work zD) = 0) (Rm : rRep zM 8 F) (hF : okF F) (hwf : ∀ k, F k ≠ 0 → wfk k) (hfull : gM_isFull zM = 0 ↔ ∀ k, F k ≠ 0 → vk k) :
    ∃ a zD' zM', f_X6_settle zD (nI to) = some (a, zD') ∧ f_X7_finish zM (nI to) = some (a, zM') ∧ (∀ s, s < 8 → slR (gD_slots zD' s) zM' s) ∧ dSame zD zD' ∧ mSame zM zM' := by
  obtain ⟨r, h1, h2, h3, h4⟩ := fits_both (nS := 200) (row := 8) (by omega) (by omega) R hN ho Rm hF hwf hfull
  unfold f_X6_settle f_X7_finish
  have h2' : f_X7_fits zM (8 : Int32) = some r := h2
  rw [h1, h2', Option.bind_some, Option.bind_some]
  rcases h3 with rfl | rfl
  · rw [if_neg (by simp), if_neg (by simp)]
    exact ⟨-4, zD, zM, rfl, rfl, hs, ⟨rfl, rfl, rfl⟩, mSame.rfl' zM⟩
  · obtain ⟨hn, hc, hb⟩ := h4 rfl
    rw [if_pos (show ¬ (1 : Int32) = 0 by decide), if_pos (show ¬ (1 : Int32) = 0 by decide), if_pos ((inb_nI (by omega)).mpr ht), nI_nat (by omega)]
    obtain ⟨z', q1, q2, q3⟩ := become_eq 40 200 (by omega) (by omega) (gD_work zD) (gD_slots zD to) n K F R hn hN ho
    rw [q1, Option.bind_some]
    obtain ⟨zM', c1, c2, c3, c4, c5, c6, c7⟩ := copy_eq zM to 8 (by omega) (by omega) (by omega) F Rm
    have c1' : f_X7_copy zM (nI to) (8 : Int32) = some zM' := c1
    rw [c1', Option.bind_some, termsOf_eq zM' to (by omega) F c2 hF, Option.bind_some, hc]
    unfold f_X4_size
    rw [Option.bind_some]
    have hw : gS_size (gD_work (uD_slot zD to z')) = nI n := R.1
    rw [hw]
    refine ⟨nI n, _, zM', rfl, rfl, fun s hs' => ?_, ⟨rfl, rfl, rfl⟩, c3⟩
    rw [slot_set]
    by_cases e : s = to
    · subst e; rw [if_pos rfl]
      exact ⟨n, K, F, q2, c2, q3, hn, hb⟩
    · rw [if_neg e]
      exact (hs s hs').keep c4 e
def opR (c : Option (Int32 × Int32 × DeskS)) (m : Option (Int32 × MdS)) (t1 t2 : Prop) (r2 : Int32) : Prop :=
  ∃ e a zD b zM, c = some (e, a, zD) ∧ m = some (b, zM) ∧ Sim zD zM ∧ ((e = 0 ∧ gM_refusal zM = 0 ∧ a = b) ∨ (e = 1 ∧ gM_refusal zM = 1 ∧ t1) ∨ (e = 2 ∧ gM_refusal zM = r2 ∧ t2))
set_option maxHeartbeats 1000000 in
set_option maxRecDepth 100000 in
theorem Sim.refusal {zD : DeskS} {zM : MdS} (h : Sim zD zM) (v : Int32) : Sim zD (uM_refusal zM v) := h
set_option maxHeartbeats 1000000 in
set_option maxRecDepth 100000 in
theorem refused0 (zM : MdS) : f_X7_refused zM 0 = some (0, uM_refusal zM 0) := rfl
set_option maxHeartbeats 1000000 in
set_option maxRecDepth 100000 in
theorem refused1 (zM : MdS) : f_X7_refused zM 1 = some (1, uM_refusal zM 1) := rfl
set_option maxHeartbeats 1000000 in
set_option maxRecDepth 100000 in
theorem refused2 (zM : MdS) : f_X7_refused zM 2 = some (1, uM_refusal zM 2) := rfl
set_option maxHeartbeats 1000000 in
set_option maxRecDepth 100000 in
theorem cb_nI {c : Nat} (h : c < 256) : cb (nI c) = true := by
  have : ∀ x : Fin 256, cb (nI x.val) = true := by decide +kernel
  exact this ⟨c, h⟩
set_option maxHeartbeats 1000000 in
set_option maxRecDepth 100000 in
theorem erase_both {zD : DeskS} {zM : MdS} (h : Sim zD zM) : ∃ a zD' zM', f_X6_erase zD = some (a, zD') ∧ f_X7_erase zM = some (a, zM') ∧ Sim zD' zM' := by
  obtain ⟨h1, ⟨n, l1, l2, l3, l4⟩, h3, h4⟩ := h
  refine ⟨nI n, uD_line zD (uL_len (gD_line zD) 0), uM_lineSize (uM_refusal zM 0) 0, ?_, ?_, h1, ⟨0, by omega, rfl, rfl, fun i h => by omega⟩, h3, h4⟩
  · show some (gL_len (gD_line zD), _) = _; rw [l2]
  · show some (gM_lineSize zM, _) = _; rw [l3]
set_option maxHeartbeats 1000000 in
set_option maxRecDepth 100000 in
theorem place_both {zD : DeskS} {zM : MdS} (h : Sim zD zM) : ∃ a zD' zM', f_X6_place zD = some (a, zD') ∧ f_X7_place zM = some (a, zM') ∧ Sim zD' zM' := by
  refine ⟨gM_wrongPlace zM, zD, uM_refusal zM 0, ?_, rfl, h.refusal 0⟩
  show some (gR_place (gD_rd zD), zD) = _
  rw [h.2.2.2]
set_option maxHeartbeats 1000000 in
set_option maxRecDepth 100000 in
theorem output_both {zD : DeskS} {zM : MdS} (h : Sim zD zM) (k : Int32) : ∃ a zD' zM', f_X6_output zD k = some (a, zD') ∧ f_X7_output zM k = some (a, zM') ∧ Sim zD' zM' := by
  obtain ⟨n, l1, l2, l3, l4⟩ := h.2.2.1
  unfold f_X6_output f_X5_charAt f_X7_output
  have hs : cb (32 : Int32) = true := by decide
  have hm : gM_outSize (uM_refusal zM 0) = nI n := l3
  rw [l2, hm]
  simp only [hs, if_true]
  have l5 := Int32.le_toInt k
  have l6 := Int32.toInt_lt k
  have hx := I32_of k
  generalize k.toInt = x at *
  subst hx
  by_cases c1 : I32 x < 0
  · rw [if_pos c1, if_pos c1, Option.bind_some, if_pos hs]
    exact ⟨32, zD, _, rfl, rfl, h.refusal 0⟩
  rw [if_neg c1, if_neg c1]
  by_cases c2 : nI n ≤ I32 x
  · rw [if_pos c2, if_pos c2, Option.bind_some, if_pos hs]
    exact ⟨32, zD, _, rfl, rfl, h.refusal 0⟩
  rw [if_neg c2, if_neg c2]
  have x0 : 0 ≤ x := by
    apply Classical.byContradiction; intro h9
    exact c1 ((I32_lt (b := 0) (by omega) (by omega) (by omega) (by omega)).mpr (by omega))
  have x1 : x < n := by
    apply Classical.byContradiction; intro h9
    rw [← I32_nI] at c2
    exact c2 ((I32_le (by omega) (by omega) (by omega) (by omega)).mpr (by omega))
  have e : I32 x = nI x.toNat := by rw [← I32_nI]; congr 1; omega
  rw [e, nI_nat (by omega), if_pos ((inb_nI (by omega)).mpr (by omega)), if_pos ((inb_nI (by omega)).mpr (by omega))]
  obtain ⟨q1, c, q2, q3⟩ := l4 x.toNat (by omega)
  have q4 : gM_out (uM_refusal zM 0) x.toNat = nI c := q3
  rw [q1, q3, q4, if_pos (cb_nI q2), Option.bind_some, if_pos (cb_nI q2), if_pos (cb_nI q2)]
  exact ⟨nI c, zD, _, rfl, rfl, h.refusal 0⟩
set_option maxHeartbeats 1000000 in
set_option maxRecDepth 100000 in
theorem terms_both {zD : DeskS} {zM : MdS} (h : Sim zD zM) (a : Int32) : opR (f_X6_terms zD a) (f_X7_terms zM a) True False 0 := by
  obtain ⟨r, e1, e2, e3, e4⟩ := isSlot6_eq a
  unfold f_X6_terms f_X7_terms f_X7_terms_13
  rw [e1, e2, Option.bind_some, Option.bind_some]
  rcases e3 with rfl | rfl
  · rw [if_neg (by simp), if_pos rfl, refused1, Option.bind_some, if_neg (by simp)]
    exact ⟨1, 0, zD, 0, _, rfl, rfl, h.refusal 1, Or.inr (Or.inl ⟨rfl, rfl, trivial⟩)⟩
  · obtain ⟨s, hs, rfl⟩ := e4.mp rfl
    rw [if_pos (show ¬ (1 : Int32) = 0 by decide), if_neg (show ¬ (1 : Int32) = 0 by decide), refused0, Option.bind_some, if_pos rfl, if_pos ((inb_nI (by omega)).mpr hs), nI_nat (by omega)]
    obtain ⟨n, K, F, R, Rm, ho, hn, hv⟩ := h.1 s hs
    have Rm' : rRep (uM_refusal zM 0) s F := Rm
    rw [termsOf_eq _ s (by omega) F Rm' (okF_of hv), Option.bind_some, cnt_size R (fun k hk => (hv k hk).1)]
    unfold f_X4_size
    rw [Option.bind_some, R.1]
    exact ⟨0, nI n, zD, nI n, _, rfl, rfl, h.refusal 0, Or.inl ⟨rfl, rfl, rfl⟩⟩
set_option maxHeartbeats 1000000 in
set_option maxRecDepth 100000 in
theorem same_loop (z : MdS) (a b : Nat) (ha : a < 8) (hb : b < 8) (F G : Nat → Rat) (R : rRep z a F) (R' : rRep z b G) (hF : okF F) (hG : okF G) : ∀ (d fu c : Nat) (v : Int32), c + d = 1150 → d < fu → (v = 0 ∨ v = 1) → ∃ r, f_X7_same_33 fu z (nI a) (nI b) v (nI c) = some (r, z) ∧ (r = 0 ∨ r = 1) ∧ (r = 1 ↔ (v = 1 ∧ ∀ j, c ≤ j → j < 1150 → F (kc j) = G (kc j))) := by
  intro d
  induction d with
  | zero =>
    intro fu c v hc hf hv
    obtain ⟨fu, rfl⟩ : ∃ f, fu = f + 1 := ⟨fu - 1, by omega⟩
    have hz : zb v = true := by rcases hv with rfl | rfl <;> rfl
    rw [f_X7_same_33, if_pos (show (1150 : Int32) ≤ nI c from (qI_le (n := 1150) (by omega) (by omega)).mpr (by omega)), if_pos hz]
    exact ⟨v, rfl, hv, ⟨fun h => ⟨h, fun j h1 h2 => by omega⟩, fun h => h.1⟩⟩
  | succ d ih =>
    intro fu c v hc hf hv
    obtain ⟨fu, rfl⟩ : ∃ f, fu = f + 1 := ⟨fu - 1, by omega⟩
    rw [f_X7_same_33, if_neg (show ¬ (1150 : Int32) ≤ nI c from fun h => by have := (qI_le (n := 1150) (by omega) (by omega)).mp h; omega), row_eq, row_eq]
    unfold f_X7_same_109 f_X7_same_110
    rw [nI_add1]
    have e1 : inb (nI (1150 * a + c)) nUD = true := inU (by omega)
    have e2 : (nI (1150 * a + c)).toNatClampNeg = 1150 * a + c := nI_nat (by omega)
    have e3 : inb (nI (1150 * b + c)) nUD = true := inU (by omega)
    have e4 : (nI (1150 * b + c)).toNatClampNeg = 1150 * b + c := nI_nat (by omega)
    simp only [e1, e2, e3, e4, if_true]
    rw [(R c (by omega)).1, (R c (by omega)).2, (R' c (by omega)).1, (R' c (by omega)).2]
    have t2 : I64 (F (kc c)).num = I64 (G (kc c)).num ↔ (F (kc c)).num = (G (kc c)).num := I64_inj (hF _).1.r (hG _).1.r
    have t3 : I64 ((F (kc c)).den : Int) = I64 ((G (kc c)).den : Int) ↔ (F (kc c)).den = (G (kc c)).den := by
      rw [I64_inj (nn_r64 (hF _).2) (nn_r64 (hG _).2)]; omega
    have down : (v = 1 → ¬ F (kc c) = G (kc c)) → ∃ r, f_X7_same_33 fu z (nI a) (nI b) 0 (nI (c + 1)) = some (r, z) ∧ (r = 0 ∨ r = 1) ∧ (r = 1 ↔ (v = 1 ∧ ∀ j, c ≤ j → j < 1150 → F (kc j) = G (kc j))) := by
      intro hn
      obtain ⟨r, h1, h2, h3⟩ := ih fu (c + 1) 0 (by omega) (by omega) (Or.inl rfl)
      exact ⟨r, h1, h2, ⟨fun h => absurd (h3.mp h).1 (by decide), fun h => absurd (h.2 c (Nat.le_refl _) (by omega)) (hn h.1)⟩⟩
    rcases hv with rfl | rfl
    · rw [if_pos rfl]; exact down (fun h => absurd h (by decide))
    rw [if_neg (show ¬ (1 : Int32) = 0 by decide)]
    by_cases c1 : (F (kc c)).num = (G (kc c)).num
    · rw [if_neg (fun h => h (t2.mpr c1))]
      by_cases c2 : (F (kc c)).den = (G (kc c)).den
      · rw [if_neg (fun h => h (t3.mpr c2))]
        obtain ⟨r, h1, h2, h3⟩ := ih fu (c + 1) 1 (by omega) (by omega) (Or.inr rfl)
        refine ⟨r, h1, h2, h3.trans ⟨fun h => ⟨rfl, fun j hj hj' => ?_⟩, fun h => ⟨rfl, fun j hj hj' => h.2 j (by omega) hj'⟩⟩⟩
        by_cases e : j = c
        · subst e; exact Rat.ext c1 c2
        · exact h.2 j (by omega) hj'
      · rw [if_pos (fun h => c2 (t3.mp h))]; exact down (fun _ h => c2 (by rw [h]))
    · rw [if_pos (fun h => c1 (t2.mp h))]; exact down (fun _ h => c1 (by rw [h]))
set_option maxHeartbeats 1000000 in
set_option maxRecDepth 100000 in
theorem matches_both {z w : SumS} {n m : Nat} {K L : Nat → Nat} {F G : Nat → Rat} (R : sRep z n K F) (R' : sRep w m L G) (hn : n ≤ 40) (hm : m ≤ 40) (hF : okF F) (hG : okF G) : ∃ r, f_X4_matches 40 40 z w = some r ∧ (r = 0 ∨ r = 1) ∧ (r = 1 ↔ ∀ k, F k = G k) := by
  have sub : ∀ {n : Nat} {K L : Nat → Nat} {F G : Nat → Rat}, (∀ k, F k ≠ 0 → ∃ i, i < n ∧ K i = k) → (∀ j, j < n → K j = L j ∧ F (K j) = G (L j)) → ∀ k, F k ≠ 0 → F k = G k := by
    intro n K L F G h1 h2 k hk
    obtain ⟨i, hi, e⟩ := h1 k hk
    obtain ⟨a1, a2⟩ := h2 i hi
    rw [← a1, e] at a2; exact a2
  unfold f_X4_matches
  rw [R.1, R'.1]
  by_cases c : n = m
  · subst c
    rw [if_pos rfl]
    obtain ⟨r, h1, h2, h3⟩ := matches_loop 40 40 (by omega) (by omega) z w n K L F G R R' hn hm hF hG n fuel 0 (by omega) (by rw [fuel_eq]; omega)
    refine ⟨r, h1, h2, h3.trans ⟨fun h k => ?_, fun h => ?_⟩⟩
    · have h' : ∀ j, j < n → K j = L j ∧ F (K j) = G (L j) := fun j hj => h j (by omega) hj
      by_cases c0 : F k = 0
      · rw [c0]
        apply Classical.byContradiction
        intro h9
        have : G k ≠ 0 := fun h8 => h9 h8.symm
        have := sub (F := G) (G := F) R'.2.2.2.2.2.2 (fun j hj => ⟨(h' j hj).1.symm, (h' j hj).2.symm⟩) k this
        exact h9 (c0.symm.trans this.symm)
      · exact sub R.2.2.2.2.2.2 h' k c0
    ·
      have hFG : F = G := funext h
      subst hFG
      have key : ∀ j, j < n → K j = L j := by
        intro j
        induction j using Nat.strongRecOn with
        | _ j ih =>
          intro hj
          obtain ⟨i, hi, e⟩ := R'.2.2.2.2.2.2 (K j) (R.2.2.2.2.2.1 j hj).1
          obtain ⟨i', hi', e'⟩ := R.2.2.2.2.2.2 (L j) (R'.2.2.2.2.2.1 j hj).1
          rcases Nat.lt_trichotomy i j with q | q | q
          · have := ih i q hi
            have := R.inj hi hj (this.trans e)
            omega
          · rw [← e, q]
          · rcases Nat.lt_trichotomy i' j with q' | q' | q'
            · have := ih i' q' hi'
              have := R'.inj hi' hj (this.symm.trans e')
              omega
            · rw [← e', q']
            · have a1 := R'.2.2.2.2.1 j i q hi
              have a2 := R.2.2.2.2.1 j i' q' hi'
              omega
      intro j _ hj
      exact ⟨key j hj, by rw [key j hj]⟩
  · rw [if_neg (fun h => c ((nI_inj (by omega) (by omega)).mp h))]
    refine ⟨0, rfl, Or.inl rfl, ⟨fun h => absurd h (by decide), fun h => ?_⟩⟩
    exfalso
    have hFG : F = G := funext h
    subst hFG
    have hp : ((List.range n).map K).Perm ((List.range m).map L) := by
      have nd : ∀ {n : Nat} {K : Nat → Nat} {z : SumS}, sRep z n K F → ((List.range n).map K).Nodup := by
        intro n K z R
        rw [List.nodup_iff_pairwise_ne, List.pairwise_map]
        refine List.Pairwise.imp_of_mem ?_ (List.nodup_iff_pairwise_ne.mp List.nodup_range)
        intro i j hi hj hne e
        exact hne (R.inj (List.mem_range.mp hi) (List.mem_range.mp hj) e)
      rw [List.perm_ext_iff_of_nodup (nd R) (nd R')]
      intro k
      simp only [List.mem_map, List.mem_range]
      constructor
      · intro ⟨i, hi, e⟩
        obtain ⟨j, hj, e'⟩ := R'.2.2.2.2.2.2 (K i) (R.2.2.2.2.2.1 i hi).1
        exact ⟨j, hj, e'.trans e⟩
      · intro ⟨i, hi, e⟩
        obtain ⟨j, hj, e'⟩ := R.2.2.2.2.2.2 (L i) (R'.2.2.2.2.2.1 i hi).1
        exact ⟨j, hj, e'.trans e⟩
    have := hp.length_eq
    simp at this
    exact c this
set_option maxHeartbeats 1000000 in
set_option maxRecDepth 100000 in
theorem same_both {zD : DeskS} {zM : MdS} (h : Sim zD zM) (a b : Int32) : ∃ e x zD' y zM', f_X6_same zD a b = some (e, x, zD') ∧ f_X7_same zM a b = some (y, zM') ∧ Sim zD' zM' ∧ ((e = 0 ∧ gM_refusal zM' = 0 ∧ x = y ∧ (x = 0 ∨ x = 1)) ∨ (e = 1 ∧ gM_refusal zM' = 1)) := by
  obtain ⟨r, e1, e2, e3, e4⟩ := isSlot6_eq a
  obtain ⟨r', f1, f2, f3, f4⟩ := isSlot6_eq b
  unfold f_X6_same f_X7_same f_X7_same_19 f_X7_same_20
  rw [e1, e2, f1, f2, Option.bind_some, Option.bind_some, Option.bind_some, Option.bind_some, refused0, refused1, Option.bind_some, Option.bind_some]
  rcases e3 with rfl | rfl
  · rw [if_pos rfl, if_pos rfl, if_neg (by simp)]
    exact ⟨1, 0, zD, 0, _, rfl, rfl, h.refusal 1, Or.inr ⟨rfl, rfl⟩⟩
  · rw [if_neg (show ¬ (1 : Int32) = 0 by decide), if_neg (show ¬ (1 : Int32) = 0 by decide)]
    rcases f3 with rfl | rfl
    · rw [if_neg (by simp), if_pos rfl, if_neg (by simp)]
      exact ⟨1, 0, zD, 0, _, rfl, rfl, h.refusal 1, Or.inr ⟨rfl, rfl⟩⟩
    · obtain ⟨s, hs, rfl⟩ := e4.mp rfl
      obtain ⟨t, ht, rfl⟩ := f4.mp rfl
      rw [if_pos (show ¬ (1 : Int32) = 0 by decide), if_neg (show ¬ (1 : Int32) = 0 by decide), if_pos rfl, if_pos ((inb_nI (by omega)).mpr hs), if_pos ((inb_nI (by omega)).mpr ht), nI_nat (by omega), nI_nat (by omega)]
      obtain ⟨n, K, F, R, Rm, ho, hn, hv⟩ := h.1 s hs
      obtain ⟨m, L, G, R', Rm', ho', hm, hw⟩ := h.1 t ht
      obtain ⟨x, q1, q2, q3⟩ := matches_both R R' hn hm (okF_of hv) (okF_of hw)
      obtain ⟨y, p1, p2, p3⟩ := same_loop (uM_refusal zM 0) s t hs ht F G Rm Rm' (okF_of hv) (okF_of hw) 1150 fuel 0 1 (by omega) (by rw [fuel_eq]; omega) (Or.inr rfl)
      have hxy : x = y := by
        have : x = 1 ↔ y = 1 := by
          rw [q3, p3]
          constructor
          · intro h9; exact ⟨rfl, fun j _ _ => h9 _⟩
          · intro ⟨_, h9⟩ k
            by_cases cF : F k = 0
            · by_cases cG : G k = 0
              · rw [cF, cG]
              · obtain ⟨c, hc, e⟩ := (hw k cG).1
                rw [← e]; exact h9 c (by omega) hc
            · obtain ⟨c, hc, e⟩ := (hv k cF).1
              rw [← e]; exact h9 c (by omega) hc
        rcases q2 with rfl | rfl
        · rcases p2 with rfl | rfl
          · rfl
          · exact absurd (this.mpr rfl) (by decide)
        · exact (this.mp rfl).symm
      subst hxy
      have p1' : f_X7_same_33 fuel (uM_refusal zM 0) (nI s) (nI t) 1 0 = some (x, uM_refusal zM 0) := p1
      have hz : zb x = true := by rcases q2 with rfl | rfl <;> rfl
      rw [q1, Option.bind_some, if_pos hz, p1']
      exact ⟨0, x, zD, x, _, rfl, rfl, h.refusal 0, Or.inl ⟨rfl, rfl, rfl, q2⟩⟩
