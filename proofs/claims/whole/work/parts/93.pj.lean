set_option maxHeartbeats 1000000 in
set_option maxRecDepth 100000 in
theorem opR_law {c : Option (Int32 × Int32 × DeskS)} {m : Option (Int32 × MdS)} {t1 t2 : Prop} {r2 : Int32} (h : opR c m t1 t2 r2) : ∃ e a zD b zM, c = some (e, a, zD) ∧ m = some (b, zM) ∧ Sim zD zM ∧ ((e = 0 ∧ gM_refusal zM = 0 ∧ a = b) ∨ (e = 1 ∧ gM_refusal zM = 1 ∧ t1) ∨ (e = 2 ∧ gM_refusal zM = r2 ∧ t2)) := h
set_option maxHeartbeats 1000000 in
set_option maxRecDepth 100000 in
theorem updO (zO : OutS) (v : Int64) : vp_updL zO (0 : Int32).toNatClampNeg v (0 : Int32).toNatClampNeg = v := updL_self _ _ _
set_option maxHeartbeats 1000000 in
set_option maxRecDepth 100000 in
theorem inb01 : inb (0 : Int32) 1 = true := by decide
set_option maxHeartbeats 1000000 in
set_option maxRecDepth 100000 in
theorem n10 : ¬ (1 : Int32) = 0 := by decide
set_option maxHeartbeats 1000000 in
set_option maxRecDepth 100000 in
theorem n20 : ¬ (2 : Int32) = 0 := by decide
set_option maxHeartbeats 1000000 in
set_option maxRecDepth 100000 in
theorem n21 : ¬ (2 : Int32) = 1 := by decide
set_option maxHeartbeats 1000000 in
set_option maxRecDepth 100000 in
theorem law_all (xs : Nat → Int32) (L : Nat) (hL : L ≤ 3072) : ∀ (fu c : Nat) (zD : DeskS) (zM : MdS) (zO : OutS), c ≤ L → L < c + 6 * fu → Sim zD zM → f_L_law_23 xs L fu zD zM zO (nI c) = some 1 := by
  intro fu
  induction fu with
  | zero => intro c zD zM zO hc hf; omega
  | succ fu ih =>
    intro c zD zM zO hc hf hS
    have e6 : nI L - 6 = I32 ((L : Int) - 6) := by rw [← I32_nI]; exact I32_sub _ 6
    have hlt : nI L - 6 < nI c ↔ (L : Int) - 6 < c := by rw [e6, ← I32_nI c]; exact I32_lt (by omega) (by omega) (by omega) (by omega)
    by_cases hend : (L : Int) - 6 < c
    · rw [f_L_law_23, if_pos (hlt.mpr hend)]
    have i0 : inb (nI c) L = true := (inb_nI (by omega)).mpr (by omega)
    have i1 : inb (nI c + 1) L = true := by rw [show nI c + 1 = nI (c + 1) from qI_add c 1]; exact (inb_nI (by omega)).mpr (by omega)
    have i2 : inb (nI c + 2) L = true := by rw [show nI c + 2 = nI (c + 2) from qI_add c 2]; exact (inb_nI (by omega)).mpr (by omega)
    have i3 : inb (nI c + 3) L = true := by rw [show nI c + 3 = nI (c + 3) from qI_add c 3]; exact (inb_nI (by omega)).mpr (by omega)
    have i4 : inb (nI c + 4) L = true := by rw [show nI c + 4 = nI (c + 4) from qI_add c 4]; exact (inb_nI (by omega)).mpr (by omega)
    have i5 : inb (nI c + 5) L = true := by rw [show nI c + 5 = nI (c + 5) from qI_add c 5]; exact (inb_nI (by omega)).mpr (by omega)
    have fin : ∀ zD' zM' zO', Sim zD' zM' → f_L_law_917 xs L (fun zD_ zM_ zO_ x4_ => f_L_law_23 xs L fu zD_ zM_ zO_ x4_) zD' zM' zO' (nI c) = some 1 := by
      intro zD' zM' zO' h
      unfold f_L_law_917
      rw [show nI c + 6 = nI (c + 6) from qI_add c 6]
      exact ih (c + 6) zD' zM' zO' (by omega) (by omega) h
    rw [f_L_law_23, if_neg (fun e => hend (hlt.mp e)), if_pos i0]
    generalize hk : (xs (nI c).toNatClampNeg &&& 15) = v
    clear hk ih
    by_cases h0 : v = 0
    · rw [if_pos h0]
      obtain ⟨e, a, zD', b, zM', q1, q2, q3, q4⟩ := type_both hS (xs (nI c + 1).toNatClampNeg) (xs (nI c + 2).toNatClampNeg) (xs (nI c + 3).toNatClampNeg) (xs (nI c + 4).toNatClampNeg) (xs (nI c + 5).toNatClampNeg)
      unfold f_L_type f_X7_thrown f_L_law_209
      rw [if_pos i1, if_pos i2, if_pos i3, if_pos i4, if_pos i5, q1, Option.bind_some]
      rcases q4 with ⟨rfl, hr, rfl⟩ | ⟨rfl, hr, ht⟩ | ⟨rfl, hr, ht⟩
      · rw [if_pos rfl, Option.bind_some, if_pos i1, if_pos i2, if_pos i3, if_pos i4, if_pos i5, q2, Option.bind_some, Option.bind_some, if_pos hr, if_neg (show ¬ ¬ (0 : Int32) = 0 by decide), if_pos inb01, if_pos (updO _ _)]
        exact fin _ _ _ q3
      · exact ht.elim
      · rw [if_neg n20, if_pos rfl, Option.bind_some, if_pos i1, if_pos i2, if_pos i3, if_pos i4, if_pos i5, q2, Option.bind_some, Option.bind_some, if_pos hr, if_pos n10]
        exact fin _ _ _ q3
    rw [if_neg h0]
    by_cases h1 : v = (1 : Int32)
    · rw [if_pos h1]
      obtain ⟨a, zD', zM', q1, q2, q3⟩ := erase_both hS
      rw [q1, Option.bind_some, q2, Option.bind_some, if_pos rfl]
      exact fin _ _ _ q3
    rw [if_neg h1]
    by_cases h2 : v = (2 : Int32)
    · rw [if_pos h2]
      obtain ⟨e, a, zD', b, zM', q1, q2, q3, q4⟩ := read_both hS (xs (nI c + 1).toNatClampNeg)
      unfold f_L_read f_X7_thrown f_L_law_278
      rw [if_pos i1, q1, Option.bind_some]
      rcases q4 with ⟨rfl, hr, rfl⟩ | ⟨rfl, hr, ht⟩ | ⟨rfl, hr, ht⟩
      · rw [if_pos rfl, Option.bind_some, if_pos i1, q2, Option.bind_some, Option.bind_some, if_pos hr, if_neg (show ¬ ¬ (0 : Int32) = 0 by decide), if_pos inb01, if_pos (updO _ _)]
        exact fin _ _ _ q3
      · rw [if_neg n10, if_pos rfl, Option.bind_some, if_pos i1, q2, Option.bind_some, Option.bind_some, if_pos hr, if_pos n10]
        exact fin _ _ _ q3
      · exact ht.elim
    rw [if_neg h2]
    by_cases h3 : v = (3 : Int32)
    · rw [if_pos h3]
      obtain ⟨a, zD', zM', q1, q2, q3⟩ := place_both hS
      rw [q1, Option.bind_some, q2, Option.bind_some, if_pos rfl]
      exact fin _ _ _ q3
    rw [if_neg h3]
    by_cases h4 : v = (4 : Int32)
    · rw [if_pos h4]
      obtain ⟨e, a, zD', b, zM', q1, q2, q3, q4⟩ := write_both hS (xs (nI c + 1).toNatClampNeg)
      unfold f_L_write f_X7_thrown f_L_law_347
      rw [if_pos i1, q1, Option.bind_some]
      rcases q4 with ⟨rfl, hr, rfl⟩ | ⟨rfl, hr, ht⟩ | ⟨rfl, hr, ht⟩
      · rw [if_pos rfl, Option.bind_some, if_pos i1, q2, Option.bind_some, Option.bind_some, if_pos hr, if_neg (show ¬ ¬ (0 : Int32) = 0 by decide), if_pos inb01, if_pos (updO _ _)]
        exact fin _ _ _ q3
      · rw [if_neg n10, if_pos rfl, Option.bind_some, if_pos i1, q2, Option.bind_some, Option.bind_some, if_pos hr, if_pos n10]
        exact fin _ _ _ q3
      · exact ht.elim
    rw [if_neg h4]
    by_cases h5 : v = (5 : Int32)
    · rw [if_pos h5]
      obtain ⟨a, zD', zM', q1, q2, q3⟩ := output_both hS (xs (nI c + 1).toNatClampNeg)
      rw [if_pos i1, q1, Option.bind_some, if_pos i1, q2, Option.bind_some, if_pos rfl]
      exact fin _ _ _ q3
    rw [if_neg h5]
    by_cases h6 : v = (6 : Int32)
    · rw [if_pos h6]
      obtain ⟨e, a, zD', b, zM', q1, q2, q3, q4⟩ := add_both hS (xs (nI c + 1).toNatClampNeg) (xs (nI c + 2).toNatClampNeg) (xs (nI c + 3).toNatClampNeg) (xs (nI c + 4).toNatClampNeg) (xs (nI c + 5).toNatClampNeg)
      unfold f_L_add f_X7_thrown f_L_law_476
      rw [if_pos i1, if_pos i2, if_pos i3, if_pos i4, if_pos i5, q1, Option.bind_some]
      rcases q4 with ⟨rfl, hr, rfl⟩ | ⟨rfl, hr, ht⟩ | ⟨rfl, hr, ht⟩
      · rw [if_pos rfl, Option.bind_some, if_pos i1, if_pos i2, if_pos i3, if_pos i4, if_pos i5, q2, Option.bind_some, Option.bind_some, if_pos hr, if_neg (show ¬ ¬ (0 : Int32) = 0 by decide), if_pos inb01, if_pos (updO _ _)]
        exact fin _ _ _ q3
      · rw [if_neg n10, if_pos rfl, Option.bind_some, if_pos i1, if_pos i2, if_pos i3, if_pos i4, if_pos i5, q2, Option.bind_some, Option.bind_some, if_pos hr, if_pos n10]
        exact fin _ _ _ q3
      · rw [if_neg n20, if_neg n21, if_pos rfl, Option.bind_some, if_pos i1, if_pos i2, if_pos i3, if_pos i4, if_pos i5, q2, Option.bind_some, Option.bind_some, if_pos hr, if_pos n20]
        exact fin _ _ _ q3
    rw [if_neg h6]
    by_cases h7 : v = (7 : Int32)
    · rw [if_pos h7]
      obtain ⟨e, a, zD', b, zM', q1, q2, q3, q4⟩ := times_both hS (xs (nI c + 1).toNatClampNeg) (xs (nI c + 2).toNatClampNeg) (xs (nI c + 3).toNatClampNeg)
      unfold f_L_times f_X7_thrown f_L_law_556
      rw [if_pos i1, if_pos i2, if_pos i3, q1, Option.bind_some]
      rcases q4 with ⟨rfl, hr, rfl⟩ | ⟨rfl, hr, ht⟩ | ⟨rfl, hr, ht⟩
      · rw [if_pos rfl, Option.bind_some, if_pos i1, if_pos i2, if_pos i3, q2, Option.bind_some, Option.bind_some, if_pos hr, if_neg (show ¬ ¬ (0 : Int32) = 0 by decide), if_pos inb01, if_pos (updO _ _)]
        exact fin _ _ _ q3
      · rw [if_neg n10, if_pos rfl, Option.bind_some, if_pos i1, if_pos i2, if_pos i3, q2, Option.bind_some, Option.bind_some, if_pos hr, if_pos n10]
        exact fin _ _ _ q3
      · rw [if_neg n20, if_neg n21, if_pos rfl, Option.bind_some, if_pos i1, if_pos i2, if_pos i3, q2, Option.bind_some, Option.bind_some, if_pos hr, if_pos n20]
        exact fin _ _ _ q3
    rw [if_neg h7]
    by_cases h8 : v = (8 : Int32)
    · rw [if_pos h8]
      obtain ⟨e, a, zD', b, zM', q1, q2, q3, q4⟩ := derive_both hS (xs (nI c + 1).toNatClampNeg) (xs (nI c + 2).toNatClampNeg)
      unfold f_L_derive f_X7_thrown f_L_law_624
      rw [if_pos i1, if_pos i2, q1, Option.bind_some]
      rcases q4 with ⟨rfl, hr, rfl⟩ | ⟨rfl, hr, ht⟩ | ⟨rfl, hr, ht⟩
      · rw [if_pos rfl, Option.bind_some, if_pos i1, if_pos i2, q2, Option.bind_some, Option.bind_some, if_pos hr, if_neg (show ¬ ¬ (0 : Int32) = 0 by decide), if_pos inb01, if_pos (updO _ _)]
        exact fin _ _ _ q3
      · rw [if_neg n10, if_pos rfl, Option.bind_some, if_pos i1, if_pos i2, q2, Option.bind_some, Option.bind_some, if_pos hr, if_pos n10]
        exact fin _ _ _ q3
      · exact ht.elim
    rw [if_neg h8]
    by_cases h9 : v = (9 : Int32)
    · rw [if_pos h9]
      obtain ⟨e, a, zD', b, zM', q1, q2, q3, q4⟩ := integrate_both hS (xs (nI c + 1).toNatClampNeg) (xs (nI c + 2).toNatClampNeg) (xs (nI c + 3).toNatClampNeg)
      unfold f_L_integrate f_X7_thrown f_L_law_704
      rw [if_pos i1, if_pos i2, if_pos i3, q1, Option.bind_some]
      rcases q4 with ⟨rfl, hr, rfl⟩ | ⟨rfl, hr, ht⟩ | ⟨rfl, hr, ht⟩
      · rw [if_pos rfl, Option.bind_some, if_pos i1, if_pos i2, if_pos i3, q2, Option.bind_some, Option.bind_some, if_pos hr, if_neg (show ¬ ¬ (0 : Int32) = 0 by decide), if_pos inb01, if_pos (updO _ _)]
        exact fin _ _ _ q3
      · rw [if_neg n10, if_pos rfl, Option.bind_some, if_pos i1, if_pos i2, if_pos i3, q2, Option.bind_some, Option.bind_some, if_pos hr, if_pos n10]
        exact fin _ _ _ q3
      · rw [if_neg n20, if_neg n21, if_pos rfl, Option.bind_some, if_pos i1, if_pos i2, if_pos i3, q2, Option.bind_some, Option.bind_some, if_pos hr, if_pos n20]
        exact fin _ _ _ q3
    rw [if_neg h9]
    by_cases h10 : v = (10 : Int32)
    · rw [if_pos h10]
      obtain ⟨e, x, zD', y, zM', q1, q2, q3, q4⟩ := same_both hS (xs (nI c + 1).toNatClampNeg) (xs (nI c + 2).toNatClampNeg)
      unfold f_L_same f_X7_thrown f_L_law_779 f_L_law_773 f_L_law_779
      rw [if_pos i1, if_pos i2, q1, Option.bind_some]
      rcases q4 with ⟨rfl, hr, rfl, hx⟩ | ⟨rfl, hr⟩
      · rcases hx with rfl | rfl
        · rw [if_pos rfl, if_pos rfl, Option.bind_some, if_pos i1, if_pos i2, q2, Option.bind_some, Option.bind_some, if_pos hr, if_neg (show ¬ ¬ (0 : Int32) = 0 by decide), if_pos inb01, if_pos rfl, if_pos (updO _ _)]
          exact fin _ _ _ q3
        · rw [if_pos rfl, if_neg n10, Option.bind_some, if_pos i1, if_pos i2, q2, Option.bind_some, Option.bind_some, if_pos hr, if_neg (show ¬ ¬ (0 : Int32) = 0 by decide), if_pos inb01, if_neg n10, if_pos (updO _ _)]
          exact fin _ _ _ q3
      · rw [if_neg n10, if_pos rfl, Option.bind_some, if_pos i1, if_pos i2, q2, Option.bind_some, Option.bind_some, if_pos hr, if_pos n10]
        exact fin _ _ _ q3
    rw [if_neg h10]
    by_cases h11 : v = (11 : Int32)
    · rw [if_pos h11]
      obtain ⟨e, a, zD', b, zM', q1, q2, q3, q4⟩ := terms_both hS (xs (nI c + 1).toNatClampNeg)
      unfold f_L_terms f_X7_thrown f_L_law_835
      rw [if_pos i1, q1, Option.bind_some]
      rcases q4 with ⟨rfl, hr, rfl⟩ | ⟨rfl, hr, ht⟩ | ⟨rfl, hr, ht⟩
      · rw [if_pos rfl, Option.bind_some, if_pos i1, q2, Option.bind_some, Option.bind_some, if_pos hr, if_neg (show ¬ ¬ (0 : Int32) = 0 by decide), if_pos inb01, if_pos (updO _ _)]
        exact fin _ _ _ q3
      · rw [if_neg n10, if_pos rfl, Option.bind_some, if_pos i1, q2, Option.bind_some, Option.bind_some, if_pos hr, if_pos n10]
        exact fin _ _ _ q3
      · exact ht.elim
    rw [if_neg h11]
    by_cases h12 : v = (12 : Int32)
    · rw [if_pos h12]
      obtain ⟨e, x, zD', y, zM', q1, q2, q3, q4⟩ := term_both hS (xs (nI c + 1).toNatClampNeg) (xs (nI c + 2).toNatClampNeg) (xs (nI c + 3).toNatClampNeg)
      unfold f_L_term f_X7_thrown f_L_law_914
      rw [if_pos i1, if_pos i2, if_pos i3, q1, Option.bind_some]
      rcases q4 with ⟨rfl, hr, rfl⟩ | ⟨rfl, hr⟩
      · rw [if_pos rfl, Option.bind_some, if_pos i1, if_pos i2, if_pos i3, q2, Option.bind_some, Option.bind_some, if_pos hr, if_neg (show ¬ ¬ (0 : Int32) = 0 by decide), if_pos inb01, if_pos (updO _ _)]
        exact fin _ _ _ q3
      · rw [if_neg n10, if_pos rfl, Option.bind_some, if_pos i1, if_pos i2, if_pos i3, q2, Option.bind_some, Option.bind_some, if_pos hr, if_pos n10]
        exact fin _ _ _ q3
    rw [if_neg h12]
    exact fin _ _ _ hS
set_option maxHeartbeats 1000000 in
set_option maxRecDepth 100000 in
theorem sim0 : Sim zDesk0 (zMd0 11500) := by
  refine ⟨fun s hs => ⟨0, fun _ => 0, fun _ => 0, ?_, ?_, rfl, by omega, fun k hk => absurd rfl hk⟩, ⟨0, by omega, rfl, rfl, fun i hi => absurd hi (Nat.not_lt_zero i)⟩, ⟨0, by omega, rfl, rfl, fun i hi => absurd hi (Nat.not_lt_zero i)⟩, rfl⟩
  · have := (sRep_clear zSum0 40)
    obtain ⟨z', h1, h2, h3⟩ := this
    unfold f_X4_clear at h1
    injection h1 with h1
    subst h1
    exact h2
  · intro c hc
    refine ⟨rfl, ?_⟩
    show dn1 11500 (1150 * s + c) = 1
    unfold dn1
    rw [if_pos (by omega)]
set_option maxHeartbeats 1000000 in
set_option maxRecDepth 100000 in
theorem law_true (xs : Nat → Int32) (L : Nat) (hL : L ≤ 3072) (zO : OutS) (fu : Nat) (hf : 520 ≤ fu) : f_L_law_23 xs L fu zDesk0 (zMd0 11500) zO 0 = some 1 :=
  law_all xs L hL fu 0 zDesk0 (zMd0 11500) zO (Nat.zero_le _) (by omega) sim0
