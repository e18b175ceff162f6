set_option maxHeartbeats 1000000 in
set_option maxRecDepth 100000 in
theorem nval_div (kd : Nat) (ag p q : Int) : ∃ p' : Int, p'.natAbs ≤ p.natAbs ∧ nval kd ag (Rat.divInt p q) = Rat.divInt p' q := by
  unfold nval
  split
  · split
    · exact ⟨0, by omega, (Rat.zero_divInt q).symm⟩
    · exact ⟨p, Nat.le_refl _, rfl⟩
  · split
    · exact ⟨-p, by omega, Rat.neg_divInt p q⟩
    · exact ⟨p, Nat.le_refl _, rfl⟩
set_option maxHeartbeats 1000000 in
set_option maxRecDepth 100000 in
theorem add_okF {G : Nat → Rat} (hG : bF G) (kd : Nat) (ag pw p q : Int) (hq : q ≠ 0) (hp : p.natAbs ≤ 999) (hq' : q.natAbs ≤ 999) : okF (addF G (dl kd ag pw (Rat.divInt p q))) := by
  intro k
  have ok1 : ∀ p' : Int, p'.natAbs ≤ 999 → s64 (G k + Rat.divInt p' q).num ∧ (G k + Rat.divInt p' q).den < 9223372036854775808 := by
    intro p' hp'
    rw [rat_add_divInt _ _ _ hq]
    have h := bd_slot (hG k) (p := p') (q := q) (by omega) (by omega)
    have hd : ((G k).den : Int) ≠ 0 := by have := (G k).den_nz; omega
    have l1 := num_le ((G k).num * q + p' * (G k).den) ((G k).den * q)
    have l2 : (Rat.divInt ((G k).num * q + p' * (G k).den) ((G k).den * q)).den ≤ _ := den_le (Int.mul_ne_zero hd hq)
    exact ⟨r64_of_abs (Nat.le_trans l1 (Nat.le_refl _)) h.1.abs, by omega⟩
  show s64 (G k + dl kd ag pw (Rat.divInt p q) k).num ∧ (G k + dl kd ag pw (Rat.divInt p q) k).den < 9223372036854775808
  unfold dl sg
  by_cases c : k = nkey kd ag pw
  · rw [if_pos c]
    obtain ⟨p', h1, h2⟩ := nval_div kd ag p q
    rw [h2]; exact ok1 p' (by omega)
  · rw [if_neg c]
    have := ok1 0 (by omega)
    rw [Rat.zero_divInt] at this; exact this
set_option maxHeartbeats 1000000 in
set_option maxRecDepth 100000 in
theorem bF_okF {G : Nat → Rat} (hG : bF G) : okF G := fun k => ⟨r64_of_abs (hG k).1 (by omega), by have := (hG k).2; omega⟩
set_option maxHeartbeats 1000000 in
set_option maxRecDepth 100000 in
theorem supV_up {G : Nat → Rat} (h : supV G) (k : Nat) : supV (upF G k 0) := by
  intro j hj
  by_cases c : j = k
  · subst c; rw [upF_self] at hj; exact absurd rfl hj
  · rw [upF_ne _ _ c] at hj; exact h j hj
set_option maxHeartbeats 1000000 in
set_option maxRecDepth 100000 in
theorem supV_bF {G : Nat → Rat} (h : supV G) (hb : ∀ j, j < 1150 → inB (G (kc j))) : bF G := by
  intro k
  by_cases c : G k = 0
  · rw [c]; decide
  · obtain ⟨j, hj, e⟩ := h k c
    rw [← e]; exact hb j hj
set_option maxHeartbeats 1000000 in
set_option maxRecDepth 100000 in
theorem chk_loop : ∀ (d fu c : Nat) (z : MdS) (G : Nat → Rat), c + d = 1150 → d < fu → rRep z 8 G → okF G → supV G → (∀ j, j < c → inB (G (kc j))) →
    ∃ z' G', f_X7_checkAll_4 fu z (nI (9200 + c)) = some z' ∧ rRep z' 8 G' ∧ supV G' ∧ bF G' ∧ mSame z z' ∧ mRow z z' 8 ∧ ((∀ j, c ≤ j → j < 1150 → inB (G (kc j))) → z' = z ∧ G' = G) ∧ ((∃ j, c ≤ j ∧ j < 1150 ∧ ¬ inB (G (kc j))) → gM_isFull z' = 1) ∧ (gM_isFull z = 1 → gM_isFull z' = 1) := by
  intro d
  induction d with
  | zero =>
    intro fu c z G hc hf R hok hs hb
    obtain ⟨fu, rfl⟩ : ∃ f, fu = f + 1 := ⟨fu - 1, by omega⟩
    have : c = 1150 := by omega
    subst this
    refine ⟨z, G, ?_, R, hs, supV_bF hs hb, mSame.rfl' z, mRow.rfl' z 8, fun _ => ⟨rfl, rfl⟩, fun ⟨j, h1, h2, _⟩ => by omega, id⟩
    rw [f_X7_checkAll_4, if_pos (show (10350 : Int32) ≤ nI (9200 + 1150) by decide)]
  | succ d ih =>
    intro fu c z G hc hf R hok hs hb
    obtain ⟨fu, rfl⟩ : ∃ f, fu = f + 1 := ⟨fu - 1, by omega⟩
    have hc' : c < 1150 := by omega
    obtain ⟨r1, r2⟩ := R c hc'
    have hidx : 1150 * 8 + c = 9200 + c := by omega
    rw [hidx] at r1 r2
    obtain ⟨r, e1, e2, e3⟩ := isOut_eq z (9200 + c) (by omega) (G (kc c)) r1 r2 (hok _).1 (hok _).2
    rw [f_X7_checkAll_4, if_neg (show ¬ (10350 : Int32) ≤ nI (9200 + c) from fun h => by have := (qI_le (n := 10350) (by omega) (by omega)).mp h; omega), e1, Option.bind_some]
    unfold f_X7_checkAll_38
    rw [nI_add1]
    by_cases x : inB (G (kc c))
    · rw [if_pos (e3.mpr x)]
      obtain ⟨z', G', q1, q2, q3, q4, q5, q6, q7, q8, q9⟩ := ih fu (c + 1) z G (by omega) (by omega) R hok hs (fun j hj => by
        by_cases y : j = c
        · rw [y]; exact x
        · exact hb j (by omega))
      refine ⟨z', G', q1, q2, q3, q4, q5, q6, fun h => q7 (fun j h1 h2 => h j (by omega) h2), fun ⟨j, h1, h2, h3⟩ => ?_, q9⟩
      by_cases y : j = c
      · rw [y] at h3; exact absurd x h3
      · exact q8 ⟨j, by omega, h2, h3⟩
    · rw [if_neg (fun h => x (e3.mp h)), if_pos (inU (by omega)), if_pos (inU (by omega)), nI_nat (by omega)]
      obtain ⟨z1, hz1⟩ : ∃ z1, z1 = uM_down (uM_up (uM_isFull z (1 : Int32)) (vp_updL (gM_up (uM_isFull z (1 : Int32))) (9200 + c) (0 : Int64))) (vp_updL (gM_down (uM_up (uM_isFull z (1 : Int32)) (vp_updL (gM_up (uM_isFull z (1 : Int32))) (9200 + c) (0 : Int64)))) (9200 + c) (1 : Int64)) := ⟨_, rfl⟩
      rw [← hz1]
      have hup : gM_up z1 = vp_updL (gM_up z) (9200 + c) 0 := by rw [hz1]; rfl
      have hdn : gM_down z1 = vp_updL (gM_down z) (9200 + c) 1 := by rw [hz1]; rfl
      have hms : mSame z z1 := by rw [hz1]; exact ⟨rfl, rfl, rfl, rfl, rfl, rfl, rfl, rfl⟩
      have hfl : gM_isFull z1 = 1 := by rw [hz1]; rfl
      have hmr : mRow z z1 8 := by
        intro j hj
        rw [hup, hdn, updL_ne _ _ (by omega), updL_ne _ _ (by omega)]; exact ⟨rfl, rfl⟩
      have R1 : rRep z1 8 (upF G (kc c) 0) := by
        intro j hj
        rw [hup, hdn]
        by_cases y : j = c
        · subst y
          rw [hidx, updL_self, updL_self, upF_self]; exact ⟨rfl, rfl⟩
        · rw [updL_ne _ _ (by omega), updL_ne _ _ (by omega), upF_ne _ _ (fun e => y (kc_inj hj hc' e))]; exact R j hj
      have ok1 : okF (upF G (kc c) 0) := by
        intro k
        by_cases y : k = kc c
        · subst y; rw [upF_self]; unfold s64; decide
        · rw [upF_ne _ _ y]; exact hok k
      obtain ⟨z', G', q1, q2, q3, q4, q5, q6, q7, q8, q9⟩ := ih fu (c + 1) z1 _ (by omega) (by omega) R1 ok1 (supV_up hs _) (fun j hj => by
        by_cases y : j = c
        · rw [y, upF_self]; unfold inB; decide
        · rw [upF_ne _ _ (fun e => y (kc_inj (by omega) hc' e))]; exact hb j (by omega))
      exact ⟨z', G', q1, q2, q3, q4, hms.trans q5, hmr.trans q6, fun h => absurd (h c (Nat.le_refl _) hc') x, fun _ => q9 hfl, fun _ => q9 hfl⟩
set_option maxHeartbeats 1000000 in
set_option maxRecDepth 100000 in
theorem chk_eq {z : MdS} {G : Nat → Rat} (R : rRep z 8 G) (hok : okF G) (hs : supV G) : ∃ z' G', f_X7_checkAll z = some z' ∧ rRep z' 8 G' ∧ supV G' ∧ bF G' ∧ mSame z z' ∧ mRow z z' 8 ∧ (bF G → z' = z ∧ G' = G) ∧ (¬ bF G → gM_isFull z' = 1) ∧ (gM_isFull z = 1 → gM_isFull z' = 1) := by
  obtain ⟨z', G', q1, q2, q3, q4, q5, q6, q7, q8, q9⟩ := chk_loop 1150 fuel 0 z G (by omega) (by rw [fuel_eq]; omega) R hok hs (fun j hj => by omega)
  refine ⟨z', G', q1, q2, q3, q4, q5, q6, fun h => q7 (fun j _ _ => h (kc j)), fun h => q8 ?_, q9⟩
  apply Classical.byContradiction
  intro hn
  apply h
  refine supV_bF hs (fun j hj => ?_)
  apply Classical.byContradiction
  intro hx
  exact hn ⟨j, by omega, hj, hx⟩
def okX (t b : Nat) (kd : Nat) (ag pw : Int) : Prop := t ≤ 999 ∧ 1 ≤ b ∧ b ≤ 999 ∧ pw.natAbs ≤ 12 ∧ kd ≤ 4 ∧ ag.natAbs ≤ 9 ∧ (kd = 1 → 0 ≤ ag) ∧ (kd = 0 → ag = 0)
set_option maxHeartbeats 1000000 in
set_option maxRecDepth 100000 in
theorem sgn_abs (s : Int32) (t : Nat) : (sgn s t).natAbs = t := by unfold sgn; split <;> omega
set_option maxHeartbeats 1000000 in
set_option maxRecDepth 100000 in
theorem m_320 {z : MdS} {G : Nat → Rat} (hz : gM_fault z = 0) (R : rRep z 8 G) (hs : supV G) (hG : bF G) {t b kd : Nat} {ag pw : Int} (hx : okX t b kd ag pw) (below : Int32) :
    ∃ z' G', f_X7_readTerm_320 z below (I64 (t : Int)) (I64 (b : Int)) (I32 pw) (nI kd) (I32 ag) = some z' ∧ mSame z z' ∧ mRow z z' 8 ∧ rRep z' 8 G' ∧ supV G' ∧ bF G' ∧
      (bF (addF G (dl kd ag pw (Rat.divInt (sgn below t) b))) → G' = addF G (dl kd ag pw (Rat.divInt (sgn below t) b)) ∧ gM_isFull z' = gM_isFull z) ∧ (¬ bF (addF G (dl kd ag pw (Rat.divInt (sgn below t) b))) → gM_isFull z' = 1) ∧ (gM_isFull z = 1 → gM_isFull z' = 1) := by
  obtain ⟨x1, x2, x3, x4, x5, x6, x7, x8⟩ := hx
  have hq : (b : Int) ≠ 0 := by omega
  have hsa := sgn_abs below t
  have hgcd : ∀ s : Int, s.natAbs = t → Int.gcd s b = Int.gcd (t : Int) b := by
    intro s h; show Nat.gcd s.natAbs b = Nat.gcd (t : Int).natAbs b; rw [h]; rfl
  have hg : Int.gcd (t : Int) b ≠ 0 := fun e => by have := (Int.gcd_eq_zero_iff.mp e).2; omega
  have hgl : Int.gcd (t : Int) b ≤ (b : Int).natAbs := Int.gcd_le_natAbs_right _ (by omega)
  have hgb : Int.gcd (t : Int) b < 9223372036854775808 := by omega
  have n1 := red_num (sgn below t) b hq
  have n2 := red_den (sgn below t) b hq
  rw [if_neg (by omega), hgcd _ hsa] at n1 n2
  have hst : s64 (t : Int) := by unfold s64; omega
  have hsb : s64 (b : Int) := by unfold s64; omega
  have hss : s64 (sgn below t) := by unfold s64; omega
  have hbd : bdK G (nkey kd ag pw) (Rat.divInt (sgn below t) b).num (Rat.divInt (sgn below t) b).den := by
    have l1 := num_le (sgn below t) b
    have l2 : (Rat.divInt (sgn below t) b).den ≤ _ := den_le hq
    exact bd_slot (hG _) (by omega) (by omega)
  have hV : Rat.divInt (Rat.divInt (sgn below t) b).num (Rat.divInt (sgn below t) b).den = Rat.divInt (sgn below t) b := Rat.num_divInt_den _
  have hvk : vk (nkey kd ag pw) := vk_nkey x5 x6 x4 x7 x8
  obtain ⟨z1, q1, q2, q3, q4, q5, q6, q7, -, -⟩ := addTerm_eq' z 8 (by omega) G R (kd := kd) (ag := ag) (pw := pw) (by unfold okT; omega) ⟨x7, x8⟩ (Rat.divInt (sgn below t) b).num (Rat.divInt (sgn below t) b).den (by have := (Rat.divInt (sgn below t) b).den_nz; omega) (r64_of_abs (num_le (sgn below t) b) (by omega)) hbd
  rw [hV] at q6
  have hokH := add_okF hG kd ag pw (sgn below t) b hq (by omega) (by omega)
  have hsH : supV (addF G (dl kd ag pw (Rat.divInt (sgn below t) b))) := supV_add hs (supV_dl hvk)
  obtain ⟨z', G', p1, p2, p3, p4, p5, p6, p7, p8, p9⟩ := chk_eq q6 hokH hsH
  have hfl := q7 hvk
  refine ⟨z', G', ?_, q2.trans p5, q3.trans p6, p2, p3, p4, fun h => ⟨(p7 h).2, by rw [(p7 h).1, hfl]⟩, p8, fun h => p9 (by rw [hfl, h])⟩
  have h0 : ¬ I64 ((Int.gcd (t : Int) b : Nat) : Int) = 0 := fun e => hg ((I64n_eq0 hgb).mp e)
  have q1' : f_X7_addTerm z 8 (nI kd) (I32 ag) (I32 pw) (I64 (Rat.divInt (sgn below t) b).num) (I64 ((Rat.divInt (sgn below t) b).den : Int)) = some z1 := q1
  have go : ∀ v, v = I64 (sgn below t) → f_X7_readTerm_354 z (I64 (b : Int)) (I64 ((Int.gcd (t : Int) b : Nat) : Int)) 8 (nI kd) (I32 ag) (I32 pw) v = some z' := by
    intro v hv
    unfold f_X7_readTerm_354
    rw [if_pos h0, if_pos h0, hv, I64_div hss.r (nn_r64 hgb) (tdiv_r64 hss.1 hss.2), I64_div hsb.r (nn_r64 hgb) (tdiv_r64 hsb.1 hsb.2), n1, n2, q1', Option.bind_some, p1, Option.bind_some]
  unfold f_X7_readTerm_320
  rw [if_neg (fun e => e hz), mgcd_eq hst hsb, Option.bind_some]
  by_cases y : below = 0
  · rw [if_pos y]; exact go _ (by unfold sgn; rw [if_pos y])
  · rw [if_neg y]; exact go _ (by unfold sgn; rw [if_neg y, I64_neg])
def spK : List Nat := [ky 0 0 0, ky 0 0 1, ky 1 1 0]
set_option maxHeartbeats 1000000 in
set_option maxRecDepth 100000 in
theorem len_le_of_sub : ∀ (l m : List Nat), l.Nodup → (∀ x, x ∈ l → x ∈ m) → l.length ≤ m.length := by
  intro l
  induction l with
  | nil => intro m _ _; exact Nat.zero_le _
  | cons x l ih =>
    intro m hn hs
    have hx : x ∈ m := hs x List.mem_cons_self
    have hn' := List.nodup_cons.mp hn
    have := ih (m.erase x) hn'.2 (fun y hy => by
      have : y ≠ x := fun e => hn'.1 (e ▸ hy)
      exact (List.mem_erase_of_ne this).mpr (hs y (List.mem_cons_of_mem _ hy)))
    rw [List.length_erase_of_mem hx] at this
    have hpos : 0 < m.length := List.length_pos_of_mem hx
    rw [List.length_cons]
    omega
set_option maxHeartbeats 1000000 in
set_option maxRecDepth 100000 in
theorem size_le {w : SumS} {n : Nat} {K : Nat → Nat} {F : Nat → Rat} (R : sRep w n K F) {S : List Nat} (hS : ∀ k, F k ≠ 0 → k ∈ S ∨ k ∈ spK) : n ≤ S.length + 3 := by
  have h := len_le_of_sub (pre K n) (S ++ spK) (by
    unfold pre
    rw [List.nodup_iff_pairwise_ne, List.pairwise_map]
    refine List.Pairwise.imp_of_mem ?_ (List.nodup_iff_pairwise_ne.mp List.nodup_range)
    intro i j hi hj hne e
    exact hne (R.inj (List.mem_range.mp hi) (List.mem_range.mp hj) e)) (fun x hx => by
    unfold pre at hx
    obtain ⟨i, hi, e⟩ := List.mem_map.mp hx
    have := hS _ (R.2.2.2.2.2.1 i (List.mem_range.mp hi)).1
    rw [e] at this
    exact List.mem_append.mpr this)
  unfold pre at h
  rw [List.length_map, List.length_range, List.length_append] at h
  exact h
set_option maxHeartbeats 1000000 in
set_option maxRecDepth 100000 in
theorem spc_key {kd : Nat} {ag pw : Int} (h : spc kd ag pw) : nkey kd ag pw ∈ spK := by
  unfold spc at h
  rcases h with ⟨rfl, rfl, rfl | rfl⟩ | ⟨rfl, rfl, rfl⟩ <;> decide
set_option maxHeartbeats 1000000 in
set_option maxRecDepth 100000 in
theorem add_supp {F : Nat → Rat} {S : List Nat} (hS : ∀ k, F k ≠ 0 → k ∈ S ∨ k ∈ spK) (kd : Nat) (ag pw : Int) (V : Rat) : (∀ k, addF F (dl kd ag pw V) k ≠ 0 → k ∈ nkey kd ag pw :: S ∨ k ∈ spK) ∧ (spc kd ag pw → ∀ k, addF F (dl kd ag pw V) k ≠ 0 → k ∈ S ∨ k ∈ spK) := by
  have base : ∀ k, addF F (dl kd ag pw V) k ≠ 0 → k = nkey kd ag pw ∨ k ∈ S ∨ k ∈ spK := by
    intro k hk
    by_cases c : k = nkey kd ag pw
    · exact Or.inl c
    · right
      apply hS
      intro e
      apply hk
      show F k + dl kd ag pw V k = 0
      unfold dl sg
      rw [if_neg c, e, Rat.add_zero]
  refine ⟨fun k hk => ?_, fun hsp k hk => ?_⟩
  · rcases base k hk with h | h | h
    · exact Or.inl (by rw [h]; exact List.mem_cons_self)
    · exact Or.inl (List.mem_cons_of_mem _ h)
    · exact Or.inr h
  · rcases base k hk with h | h | h
    · exact Or.inr (by rw [h]; exact spc_key hsp)
    · exact Or.inl h
    · exact Or.inr h
set_option maxHeartbeats 1000000 in
set_option maxRecDepth 100000 in
theorem c_add {w : SumS} {n : Nat} {K : Nat → Nat} {F : Nat → Rat} (R : sRep w n K F) (ho : gS_ov w = 0) (hs : supV F) (hF : bF F) {S : List Nat} (hS : ∀ k, F k ≠ 0 → k ∈ S ∨ k ∈ spK) (hl : S.length ≤ 35) {t b kd : Nat} {ag pw : Int} (hx : okX t b kd ag pw) (below : Int32) (a f p : Int32)
    (hl2 : ¬ spc kd ag pw → S.length ≤ 34) :
    ∃ r w' n' K', f_X3_addTerm 200 (mkR a f p (I64 (sgn below t)) (I64 (b : Int)) (I32 pw) (nI kd) (I32 ag)) w = some (r, w') ∧ (r = 0 ∨ r = 1) ∧ (r = 1 ↔ bF (addF F (dl kd ag pw (Rat.divInt (sgn below t) b)))) ∧ sRep w' n' K' (addF F (dl kd ag pw (Rat.divInt (sgn below t) b))) ∧ gS_ov w' = 0 ∧ n' ≤ 200 := by
  obtain ⟨x1, x2, x3, x4, x5, x6, x7, x8⟩ := hx
  have hq : (b : Int) ≠ 0 := by omega
  have hsa := sgn_abs below t
  have hn := size_le R hS
  obtain ⟨w', n', K', q1, q2, q3, q4⟩ := put_eq (nS := 200) (by omega) R (by omega) (kd := kd) (ag := ag) (pw := pw) (by unfold okT; omega) (sgn below t) b hq (bd_slot (hF _) (by omega) (by omega))
  have hvk : vk (nkey kd ag pw) := vk_nkey x5 x6 x4 x7 x8
  have hokH := add_okF hF kd ag pw (sgn below t) b hq (by omega) (by omega)
  have hsH : supV (addF F (dl kd ag pw (Rat.divInt (sgn below t) b))) := supV_add hs (supV_dl hvk)
  have hsup := add_supp hS kd ag pw (Rat.divInt (sgn below t) b)
  have hn' : n' ≤ 40 := by
    by_cases y : spc kd ag pw
    · have := size_le q2 (hsup.2 y); omega
    · have := size_le q2 hsup.1
      have := hl2 y
      rw [List.length_cons] at *
      omega
  obtain ⟨r, p1, p2, p3⟩ := fits_eq 200 (by omega) w' n' K' _ q2 (by omega) hokH
  refine ⟨r, w', n', K', ?_, p2, p3.trans ⟨fun h k => ?_, fun h => ⟨q3.trans ho, hn', fun j hj => ?_⟩⟩, q2, q3.trans ho, by omega⟩
  · unfold f_X3_addTerm
    have q1' : f_X4_put 200 w (gR_kind (mkR a f p (I64 (sgn below t)) (I64 (b : Int)) (I32 pw) (nI kd) (I32 ag))) (gR_arg (mkR a f p (I64 (sgn below t)) (I64 (b : Int)) (I32 pw) (nI kd) (I32 ag))) (gR_power (mkR a f p (I64 (sgn below t)) (I64 (b : Int)) (I32 pw) (nI kd) (I32 ag))) (gR_top (mkR a f p (I64 (sgn below t)) (I64 (b : Int)) (I32 pw) (nI kd) (I32 ag))) (gR_bottom (mkR a f p (I64 (sgn below t)) (I64 (b : Int)) (I32 pw) (nI kd) (I32 ag))) = some w' := q1
    rw [q1', Option.bind_some, p1, Option.bind_some]
    have hz : zb r = true := by rcases p2 with rfl | rfl <;> decide
    rw [if_pos hz]
  · by_cases y : addF F (dl kd ag pw (Rat.divInt (sgn below t) b)) k = 0
    · rw [y]; decide
    · obtain ⟨j, hj, e⟩ := q2.2.2.2.2.2.2 k y
      rw [← e]
      exact ⟨(h.2.2 j hj).1, (h.2.2 j hj).2.1⟩
  · have hv := vk_wfk.mp (hsH _ (q2.2.2.2.2.2.1 j hj).1)
    exact ⟨(h _).1, (h _).2, hv.2.1, hv.2.2⟩
def mRd (z w : MdS) : Prop := gM_refusal w = gM_refusal z ∧ gM_lineSize w = gM_lineSize z ∧ gM_line w = gM_line z ∧ gM_outSize w = gM_outSize z ∧ gM_out w = gM_out z ∧ mLow z w
set_option maxHeartbeats 1000000 in
set_option maxRecDepth 100000 in
theorem mRd.rfl' (z : MdS) : mRd z z := ⟨rfl, rfl, rfl, rfl, rfl, mLow.rfl' z⟩
set_option maxHeartbeats 1000000 in
set_option maxRecDepth 100000 in
theorem mRd.trans {a b c : MdS} (h : mRd a b) (g : mRd b c) : mRd a c :=
  ⟨g.1.trans h.1, g.2.1.trans h.2.1, g.2.2.1.trans h.2.2.1, g.2.2.2.1.trans h.2.2.2.1, g.2.2.2.2.1.trans h.2.2.2.2.1, h.2.2.2.2.2.trans g.2.2.2.2.2⟩
set_option maxHeartbeats 1000000 in
set_option maxRecDepth 100000 in
theorem mRd_of {z w : MdS} (h : mSame z w) (g : mRow z w 8) : mRd z w := ⟨h.1, h.2.1, h.2.2.2.2.2.2.1, h.2.2.1, h.2.2.2.2.2.2.2, g.low (by omega)⟩
section RL
variable {L : Ln} {zL : LineS}
set_option maxHeartbeats 1000000 in
set_option maxRecDepth 100000 in
theorem c_after (g : gdL L) (hC : lC zL L) (kb : RdS → SumS → Int32 → Int32 → Int32 → Option (Int32 × RdS × SumS)) {b : Nat} {z : RdS} (hb : b ≤ L.1) (h : gR_at z = nI b) (w : SumS) (x3 v0 : Int32) :
    f_X3_readLine_68 200 zL kb z w x3 v0 = (if chL L (nx L b) = 0 then f_X3_readLine_121 200 zL (uR_at z (nI (nx L b))) w v0 else if chL L (nx L b) = 45 then kb (uR_at z (nI (nx L b + 1))) w v0 1 (x3 + 1) else if chL L (nx L b) = 43 then kb (uR_at z (nI (nx L b + 1))) w v0 0 (x3 + 1) else some (-2, uR_place (uR_fault (uR_at z (nI (nx L b))) (-2)) (nI (nx L b)), w)) := by
  unfold f_X3_readLine_68 f_X3_readLine_115 f_X3_refuse
  have hxb := nx_le hb
  have hxx := nx_nx hb
  rw [c_next g hC hb h, Option.bind_some]
  have e0 : nI (chL L (nx L b)) = 0 ↔ chL L (nx L b) = 0 := eq_ch g _ (c := 0) (by omega)
  by_cases c0 : chL L (nx L b) = 0
  · rw [if_pos c0, if_neg (fun e => e (e0.mpr c0))]
  rw [if_neg c0, if_pos (show ¬ nI (chL L (nx L b)) = 0 from fun e => c0 (e0.mp e))]
  have t1 : f_X3_takes zL (uR_at z (nI (nx L b))) 45 = _ := c_takes g hC (z := uR_at z (nI (nx L b))) hxb rfl (c := 45) (by omega)
  rw [t1, hxx]
  by_cases c1 : chL L (nx L b) = 45
  · rw [if_pos c1, if_pos c1, Option.bind_some, if_pos (show ¬ (1 : Int32) = 0 by decide)]
    rfl
  rw [if_neg c1, if_neg c1, Option.bind_some, if_neg (show ¬ ¬ (0 : Int32) = 0 by decide)]
  have t2 : f_X3_takes zL (uR_at z (nI (nx L b))) 43 = _ := c_takes g hC (z := uR_at z (nI (nx L b))) hxb rfl (c := 43) (by omega)
  have t2' : f_X3_takes zL ((0 : Int32), uR_at (uR_at z (nI (nx L b))) (nI (nx L b))).2 43 = _ := t2
  rw [t2', hxx]
  by_cases c2 : chL L (nx L b) = 43
  · rw [if_pos c2, if_pos c2, Option.bind_some, if_pos (show ¬ (1 : Int32) = 0 by decide)]
    rfl
  rw [if_neg c2, if_neg c2, Option.bind_some, if_neg (show ¬ ¬ (0 : Int32) = 0 by decide)]
  rfl
set_option maxHeartbeats 1000000 in
set_option maxRecDepth 100000 in
theorem m_after (g : gdL L) (kb : MdS → Int32 → Int32 → Int32 → Option (Int32 × MdS)) {b : Nat} {z : MdS} (hM : lM z L) (hz : gM_fault z = 0) (hb : b ≤ L.1) (h : gM_at z = nI b) (x1 : Int32) :
    ((f_X7_next z).bind fun r_8 => if ¬ r_8.1 = (45 : Int32) then f_X7_read_85 kb r_8.2 x1 else f_X7_read_86 kb r_8.2 x1 (1 : Int32)) = (if chL L (nx L b) = 45 then kb (uM_at z (nI (nx L b + 1))) x1 1 1 else if chL L (nx L b) = 43 then kb (uM_at z (nI (nx L b + 1))) x1 0 1 else kb (uM_at z (nI (nx L b))) x1 0 0) := by
  have hxb := nx_le hb
  have hxx := nx_nx hb
  rw [m_next g hM hb h, Option.bind_some]
  have hM1 : lM (uM_at z (nI (nx L b))) L := hM
  have n1 : f_X7_next (uM_at z (nI (nx L b))) = some (nI (chL L (nx L b)), uM_at z (nI (nx L b))) := by
    have := m_next g hM1 hxb rfl
    rw [hxx] at this; exact this
  have e45 : nI (chL L (nx L b)) = 45 ↔ chL L (nx L b) = 45 := eq_ch g _ (c := 45) (by omega)
  have e43 : nI (chL L (nx L b)) = 43 ↔ chL L (nx L b) = 43 := eq_ch g _ (c := 43) (by omega)
  have hz1 : ¬ ¬ gM_fault (uM_at z (nI (nx L b))) = 0 := fun e => e hz
  by_cases c1 : chL L (nx L b) = 45
  · rw [if_pos c1, if_neg (show ¬ ¬ nI (chL L (nx L b)) = 45 from fun e => e (e45.mpr c1))]
    unfold f_X7_read_86 f_X7_read_112 f_X7_read_117
    rw [if_neg hz1, n1, Option.bind_some, if_neg (show ¬ nI (chL L (nx L b)) = 43 from fun e => by have := e43.mp e; omega), n1, Option.bind_some, if_neg (show ¬ ¬ nI (chL L (nx L b)) = 45 from fun e => e (e45.mpr c1)), if_neg (show ¬ (1 : Int32) = 0 by decide)]
    show kb (uM_at (uM_at z (nI (nx L b))) (nI (nx L b) + 1)) x1 1 1 = _
    rw [nI_add1]; rfl
  · rw [if_neg c1, if_pos (show ¬ nI (chL L (nx L b)) = 45 from fun e => c1 (e45.mp e))]
    unfold f_X7_read_85 f_X7_read_86 f_X7_read_112 f_X7_read_116 f_X7_read_117
    rw [if_neg hz1, n1, Option.bind_some]
    by_cases c2 : chL L (nx L b) = 43
    · rw [if_pos c2, if_pos (show nI (chL L (nx L b)) = 43 from e43.mpr c2), if_neg (show ¬ (1 : Int32) = 0 by decide)]
      show kb (uM_at (uM_at z (nI (nx L b))) (nI (nx L b) + 1)) x1 0 1 = _
      rw [nI_add1]; rfl
    · rw [if_neg c2, if_neg (show ¬ nI (chL L (nx L b)) = 43 from fun e => c2 (e43.mp e)), n1, Option.bind_some, if_pos (show ¬ nI (chL L (nx L b)) = 45 from fun e => c1 (e45.mp e)), if_pos rfl]
def rel (x1 : Int32) (w : SumS) (z : MdS) (a : Nat) : Prop :=
  (x1 = 0 ∧ ∃ (n : Nat) (K : Nat → Nat) (F : Nat → Rat) (S : List Nat), sRep w n K F ∧ gS_ov w = 0 ∧ n ≤ 200 ∧ supV F ∧ bF F ∧ (∀ k, F k ≠ 0 → k ∈ S ∨ k ∈ spK) ∧ 3 * S.length ≤ a ∧ rRep z 8 F ∧ gM_isFull z = 0) ∨ (x1 = 1 ∧ gM_isFull z = 1 ∧ ∃ G, rRep z 8 G ∧ supV G ∧ bF G)
def outc (o : Option (Int32 × RdS × SumS)) (m : Option (Int32 × MdS)) (zM : MdS) (to : Nat) : Prop :=
  ∃ ans z' w', o = some (ans, z', w') ∧
    ((¬ ans = 0 ∧ ∃ zM', m = some (ans, zM') ∧ mRd zM zM' ∧ gR_place z' = gM_wrongPlace zM') ∨
     (ans = 0 ∧ ∃ zM' n K F, m = (f_X7_finish zM' (nI to)).bind (fun r => some (r.1, r.2)) ∧ mRd zM zM' ∧ gR_place z' = gM_wrongPlace zM' ∧ sRep w' n K F ∧ gS_ov w' = 0 ∧ n ≤ 200 ∧ supV F ∧ bF F ∧ rRep zM' 8 F ∧ gM_isFull zM' = 0))
set_option maxHeartbeats 1000000 in
set_option maxRecDepth 100000 in
theorem rd0_fault {fm : Nat} {z : MdS} (hz : ¬ gM_fault z = 0) (x1 x2 : Int32) : f_X7_read_56 (fm + 1) z x1 x2 0 = some (gM_fault z, z) := by
  rw [f_X7_read_56, if_pos rfl, if_pos hz]
  unfold f_X7_read_159
  rw [if_neg hz]
set_option maxHeartbeats 1000000 in
set_option maxRecDepth 100000 in
theorem rd_fault {fm : Nat} {z : MdS} (hz : ¬ gM_fault z = 0) (x1 : Int32) : f_X7_read_85 (fun zM_ x1_ x2_ x3_ => f_X7_read_56 (fm + 1) zM_ x1_ x2_ x3_) z x1 = some (gM_fault z, z) := by
  unfold f_X7_read_85 f_X7_read_86 f_X7_read_116 f_X7_read_117
  rw [if_pos hz, if_pos rfl]
  exact rd0_fault hz x1 0
set_option maxHeartbeats 1000000 in
set_option maxRecDepth 100000 in
theorem pTerm_err {a : Nat} {e : Flt} (h : pTerm L a = .error e) : e.1 = -2 ∨ e.1 = -3 := by
  unfold pTerm at h
  have hMul : ∀ kd a e, pMul L kd a = .error e → e.1 = -2 ∨ e.1 = -3 := by
    intro kd a e h
    unfold pMul at h
    split at h
    · split at h
      · rename_i x hx
        injection h with h; subst h
        exact pCnt_err hx
      · split at h
        · split at h
          · exact absurd h (by simp)
          · injection h with h; subst h; exact Or.inl rfl
        · injection h with h; subst h; exact Or.inl rfl
    · injection h with h; subst h; exact Or.inl rfl
  have hLog : ∀ a e, pLog L a = .error e → e.1 = -2 ∨ e.1 = -3 := by
    intro a e h
    unfold pLog at h
    split at h
    · split at h
      · rename_i x hx
        injection h with h; subst h
        exact numR_err hx
      · exact absurd h (by simp)
    · exact absurd h (by simp)
  have hFun : ∀ a e, pFun L a = .error e → e.1 = -2 ∨ e.1 = -3 := by
    intro a e h
    unfold pFun at h
    split at h
    · exact hLog _ _ h
    · split at h
      · exact hMul _ _ _ h
      · split at h
        · exact hMul _ _ _ h
        · split at h
          · exact hMul _ _ _ h
          · exact absurd h (by simp)
  have hPow : ∀ a e, pPow L a = .error e → e.1 = -2 ∨ e.1 = -3 := by
    intro a e h
    unfold pPow at h
    split at h
    · split at h
      · split at h
        · rename_i x hx
          injection h with h; subst h
          exact numR_err hx
        · exact absurd h (by simp)
      · exact absurd h (by simp)
    · exact absurd h (by simp)
  have hCoef : ∀ a e, pCoef L a = .error e → e.1 = -2 ∨ e.1 = -3 := by
    intro a e h
    unfold pCoef at h
    split at h
    · split at h
      · split at h
        · rename_i x hx
          injection h with h; subst h
          exact numR_err hx
        · exact absurd h (by simp)
      · exact absurd h (by simp)
    · exact absurd h (by simp)
  split at h
  · rename_i x hx
    injection h with h; subst h
    exact hCoef _ _ hx
  · split at h
    · rename_i x hx
      injection h with h; subst h
      exact hPow _ _ hx
    · split at h
      · rename_i x hx
        injection h with h; subst h
        exact hFun _ _ hx
      · split at h
        · exact absurd h (by simp)
        · injection h with h; subst h; exact Or.inl rfl
set_option maxHeartbeats 1000000 in
set_option maxRecDepth 100000 in
theorem e0 {e : Flt} (h : e.1 = -2 ∨ e.1 = -3) : ¬ e.1 = 0 := by
  rcases h with h | h <;> rw [h] <;> decide
set_option maxHeartbeats 1000000 in
set_option maxRecDepth 100000 in
theorem read_loop (g : gdL L) (hC : lC zL L) (to : Nat) : ∀ (D fu fm a i : Nat) (z : RdS) (w : SumS) (zM : MdS) (x1 below : Int32), L.1 ≤ a + D → a ≤ L.1 → D < fu → D + 2 ≤ fm → gR_at z = nI a → gR_place z = gM_wrongPlace zM → lM zM L → gM_fault zM = 0 → gM_at zM = nI a → 2 * i ≤ a → rel x1 w zM a →
    outc (f_X3_readLine_33 200 zL fu z w x1 below (nI i)) (f_X7_read_56 fm zM (nI to) below 1) zM to := by
  have g1 := g.1
  intro D
  induction D with
  | zero =>
    intro fu fm a i z w zM x1 below hD ha hf hfm hat hpl hM hz hatM hi hrel
    obtain ⟨fu, rfl⟩ : ∃ f, fu = f + 1 := ⟨fu - 1, by omega⟩
    obtain ⟨fm, rfl⟩ : ∃ f, fm = f + 2 := ⟨fm - 2, by omega⟩
    have s1 := c_term g hC ha hat below
    have s2 := m_term g hM hz ha hatM below
    cases hp : pTerm L a with
    | ok x => have h1 := pTerm_ok ha hp; have h2 := nx_ge L a; omega
    | error e =>
      obtain ⟨z', q1, q2, q3⟩ := s1.2 e hp
      obtain ⟨y, q4⟩ := s2.2 e hp
      have he := pTerm_err hp
      refine ⟨e.1, z', w, ?_, Or.inl ⟨e0 he, mErr zM e y, ?_, ⟨rfl, rfl, rfl, rfl, rfl, fun _ _ => ⟨rfl, rfl⟩⟩, q3⟩⟩
      · rw [f_X3_readLine_33, if_neg (show ¬ (100 : Int32) ≤ nI i from fun e => by have := (qI_le (n := 100) (by omega) (by omega)).mp e; omega), q1, Option.bind_some, if_neg (by simp), q2]
      · rw [f_X7_read_56, if_neg (show ¬ (1 : Int32) = 0 by decide), q4, Option.bind_some, if_pos (mErr_f he)]
        exact rd_fault (mErr_f he) _
  | succ D ih =>
    intro fu fm a i z w zM x1 below hD ha hf hfm hat hpl hM hz hatM hi hrel
    obtain ⟨fu, rfl⟩ : ∃ f, fu = f + 1 := ⟨fu - 1, by omega⟩
    obtain ⟨fm, rfl⟩ : ∃ f, fm = f + 2 := ⟨fm - 2, by omega⟩
    have s1 := c_term g hC ha hat below
    have s2 := m_term g hM hz ha hatM below
    have hi100 : ¬ (100 : Int32) ≤ nI i ∨ 100 ≤ i := by
      by_cases y : 100 ≤ i
      · exact Or.inr y
      · exact Or.inl (fun e => y ((qI_le (n := 100) (by omega) (by omega)).mp e))
    have hi' : ¬ (100 : Int32) ≤ nI i := by
      rcases hi100 with y | y
      · exact y
      · omega
    cases hp : pTerm L a with
    | error e =>
      obtain ⟨z', q1, q2, q3⟩ := s1.2 e hp
      obtain ⟨y, q4⟩ := s2.2 e hp
      have he := pTerm_err hp
      refine ⟨e.1, z', w, ?_, Or.inl ⟨e0 he, mErr zM e y, ?_, ⟨rfl, rfl, rfl, rfl, rfl, fun _ _ => ⟨rfl, rfl⟩⟩, q3⟩⟩
      · rw [f_X3_readLine_33, if_neg hi', q1, Option.bind_some, if_neg (by simp), q2]
      · rw [f_X7_read_56, if_neg (show ¬ (1 : Int32) = 0 by decide), q4, Option.bind_some, if_pos (mErr_f he)]
        exact rd_fault (mErr_f he) _
    | ok x =>
      have hx := pTerm_ok ha hp
      have q1 : f_X3_readTerm zL z below = some (1, mkR (nI x.1) (gR_fault z) (gR_place z) (I64 (sgn below x.2.1.1)) (I64 (x.2.1.2 : Int)) (I32 x.2.2.1) (nI x.2.2.2.1) (I32 x.2.2.2.2)) := s1.1 x hp
      have q2 : f_X7_readTerm zM below = f_X7_readTerm_320 (uM_at zM (nI x.1)) below (I64 (x.2.1.1 : Int)) (I64 (x.2.1.2 : Int)) (I32 x.2.2.1) (nI x.2.2.2.1) (I32 x.2.2.2.2) := s2.1 x hp
      obtain ⟨x1', x2', x3', x4', x5', x6', x7', x8', x9', x10', x11'⟩ := hx
      have hokx : okX x.2.1.1 x.2.1.2 x.2.2.2.1 x.2.2.2.2 x.2.2.1 := ⟨x3', x4', x5', x6', x7', x8', x9', x10'⟩
      have hge := nx_ge L a
      have step : ∃ w1 v0 zM1, f_X7_readTerm_320 (uM_at zM (nI x.1)) below (I64 (x.2.1.1 : Int)) (I64 (x.2.1.2 : Int)) (I32 x.2.2.1) (nI x.2.2.2.1) (I32 x.2.2.2.2) = some zM1 ∧ mSame (uM_at zM (nI x.1)) zM1 ∧ mRow zM zM1 8 ∧ rel v0 w1 zM1 (x.1 + 1) ∧
          f_X3_readLine_33 200 zL (fu + 1) z w x1 below (nI i) = f_X3_readLine_68 200 zL (fun zD_ zS_ x1_ x2_ x3_ => f_X3_readLine_33 200 zL fu zD_ zS_ x1_ x2_ x3_) (mkR (nI x.1) (gR_fault z) (gR_place z) (I64 (sgn below x.2.1.1)) (I64 (x.2.1.2 : Int)) (I32 x.2.2.1) (nI x.2.2.2.1) (I32 x.2.2.2.2)) w1 (nI i) v0 := by
        rcases hrel with ⟨h0, n, K, F, S, r1, r2, r3, r4, r5, r6, r7, r8, r9⟩ | ⟨h1, hfl, G, r1, r2, r3⟩
        · have r8' : rRep (uM_at zM (nI x.1)) 8 F := r8
          obtain ⟨zM1, G', m1, m2, m3, m4, m5, m6, m7, m8, m9⟩ := m_320 (z := uM_at zM (nI x.1)) hz r8' r4 r5 hokx below
          obtain ⟨r, w', n', K', c1, c2, c3, c4, c5, c6⟩ := c_add r1 r2 r4 r5 r6 (by omega) hokx below (nI x.1) (gR_fault z) (gR_place z) (fun _ => by omega)
          have hvk := vk_nkey hokx.2.2.2.2.1 hokx.2.2.2.2.2.1 hokx.2.2.2.1 hokx.2.2.2.2.2.2.1 hokx.2.2.2.2.2.2.2
          by_cases hb : bF (addF F (dl x.2.2.2.1 x.2.2.2.2 x.2.2.1 (Rat.divInt (sgn below x.2.1.1) x.2.1.2)))
          · have hr1 := c3.mpr hb
            subst hr1
            obtain ⟨hG', hfl'⟩ := m7 hb
            rw [hG'] at m4 m5
            have hsup := add_supp r6 x.2.2.2.1 x.2.2.2.2 x.2.2.1 (Rat.divInt (sgn below x.2.1.1) x.2.1.2)
            refine ⟨w', 0, zM1, m1, m2, m3, Or.inl ⟨rfl, n', K', _, (if spc x.2.2.2.1 x.2.2.2.2 x.2.2.1 then S else nkey x.2.2.2.1 x.2.2.2.2 x.2.2.1 :: S), c4, c5, c6, m5, hb, ?_, ?_, m4, by rw [hfl']; exact r9⟩, ?_⟩
            · by_cases y : spc x.2.2.2.1 x.2.2.2.2 x.2.2.1
              · rw [if_pos y]; exact hsup.2 y
              · rw [if_neg y]; exact hsup.1
            · by_cases y : spc x.2.2.2.1 x.2.2.2.2 x.2.2.1
              · rw [if_pos y]; omega
              · rw [if_neg y, List.length_cons]
                have : ¬ x.1 ≤ nx L a + 1 := fun e => y (x11' e)
                omega
            · rw [f_X3_readLine_33, if_neg hi', q1, Option.bind_some, if_pos (show ¬ (1 : Int32) = 0 by decide), if_neg (show ¬ ¬ x1 = 0 from fun e => e h0), c1, Option.bind_some, if_pos (show ¬ (1 : Int32) = 0 by decide)]
          · have hr0 : r = 0 := by
              rcases c2 with y | y
              · exact y
              · exact absurd (c3.mp y) hb
            subst hr0
            refine ⟨w', 1, zM1, m1, m2, m3, Or.inr ⟨rfl, m8 hb, G', m4, m5, m6⟩, ?_⟩
            rw [f_X3_readLine_33, if_neg hi', q1, Option.bind_some, if_pos (show ¬ (1 : Int32) = 0 by decide), if_neg (show ¬ ¬ x1 = 0 from fun e => e h0), c1, Option.bind_some, if_neg (by simp)]
            rfl
        · have r1' : rRep (uM_at zM (nI x.1)) 8 G := r1
          obtain ⟨zM1, G', m1, m2, m3, m4, m5, m6, m7, m8, m9⟩ := m_320 (z := uM_at zM (nI x.1)) hz r1' r2 r3 hokx below
          refine ⟨w, 1, zM1, m1, m2, m3, Or.inr ⟨rfl, m9 hfl, G', m4, m5, m6⟩, ?_⟩
          rw [f_X3_readLine_33, if_neg hi', q1, Option.bind_some, if_pos (show ¬ (1 : Int32) = 0 by decide), if_pos (show ¬ x1 = 0 by rw [h1]; decide)]
          rfl
      obtain ⟨w1, v0, zM1, m1, m2, m3, hrel', ec⟩ := step
      have hz1 : gM_fault zM1 = 0 := m2.2.2.2.2.2.1.trans hz
      have hat1 : gM_at zM1 = nI x.1 := m2.2.2.2.2.1
      have hM1 : lM zM1 L := ⟨m2.2.1.trans hM.1, fun j h1 h2 => by rw [m2.2.2.2.2.2.2.1]; exact hM.2 j h1 h2⟩
      have hwp : gM_wrongPlace zM1 = gM_wrongPlace zM := m2.2.2.2.1
      have hrd : mRd zM zM1 := ⟨m2.1, m2.2.1, m2.2.2.2.2.2.2.1, m2.2.2.1, m2.2.2.2.2.2.2.2, m3.low (by omega)⟩
      have em : f_X7_read_56 (fm + 1 + 1) zM (nI to) below 1 = (if chL L (nx L x.1) = 45 then f_X7_read_56 (fm + 1) (uM_at zM1 (nI (nx L x.1 + 1))) (nI to) 1 1 else if chL L (nx L x.1) = 43 then f_X7_read_56 (fm + 1) (uM_at zM1 (nI (nx L x.1 + 1))) (nI to) 0 1 else f_X7_read_56 (fm + 1) (uM_at zM1 (nI (nx L x.1))) (nI to) 0 0) := by
        rw [f_X7_read_56, if_neg (show ¬ (1 : Int32) = 0 by decide), q2, m1, Option.bind_some, if_neg (fun e => e hz1)]
        exact m_after g (fun zM_ x1_ x2_ x3_ => f_X7_read_56 (fm + 1) zM_ x1_ x2_ x3_) hM1 hz1 x2' hat1 (nI to)
      rw [ec, c_after g hC _ x2' rfl, em]
      have hxb := nx_le x2'
      have hxx := nx_nx x2'
      have hge2 := nx_ge L x.1
      have goon : ∀ s : Int32, nx L x.1 + 1 ≤ L.1 → outc (f_X3_readLine_33 200 zL fu (uR_at (mkR (nI x.1) (gR_fault z) (gR_place z) (I64 (sgn below x.2.1.1)) (I64 (x.2.1.2 : Int)) (I32 x.2.2.1) (nI x.2.2.2.1) (I32 x.2.2.2.2)) (nI (nx L x.1 + 1))) w1 v0 s (nI i + 1)) (f_X7_read_56 (fm + 1) (uM_at zM1 (nI (nx L x.1 + 1))) (nI to) s 1) zM to := by
        intro s hl
        rw [nI_add1]
        have hrel2 : rel v0 w1 (uM_at zM1 (nI (nx L x.1 + 1))) (nx L x.1 + 1) := by
          rcases hrel' with ⟨h0, n, K, F, S, r1, r2, r3, r4, r5, r6, r7, r8, r9⟩ | ⟨h1, hfl, G, r1, r2, r3⟩
          · exact Or.inl ⟨h0, n, K, F, S, r1, r2, r3, r4, r5, r6, by omega, r8, r9⟩
          · exact Or.inr ⟨h1, hfl, G, r1, r2, r3⟩
        have hM2 : lM (uM_at zM1 (nI (nx L x.1 + 1))) L := hM1
        obtain ⟨ans, z', w', o1, o2⟩ := ih fu (fm + 1) (nx L x.1 + 1) (i + 1) (uR_at (mkR (nI x.1) (gR_fault z) (gR_place z) (I64 (sgn below x.2.1.1)) (I64 (x.2.1.2 : Int)) (I32 x.2.2.1) (nI x.2.2.2.1) (I32 x.2.2.2.2)) (nI (nx L x.1 + 1))) w1 (uM_at zM1 (nI (nx L x.1 + 1))) v0 s (by omega) hl (by omega) (by omega) rfl (show gR_place z = gM_wrongPlace zM1 by rw [hwp]; exact hpl) hM2 hz1 rfl (by omega) hrel2
        refine ⟨ans, z', w', o1, ?_⟩
        have hrd2 : mRd zM (uM_at zM1 (nI (nx L x.1 + 1))) := hrd
        rcases o2 with ⟨y1, zM', y2, y3, y4⟩ | ⟨y1, zM', n, K, F, y2, y3, y4⟩
        · exact Or.inl ⟨y1, zM', y2, hrd2.trans y3, y4⟩
        · exact Or.inr ⟨y1, zM', n, K, F, y2, hrd2.trans y3, y4⟩
      have hzn : ¬ ¬ gM_fault (uM_at zM1 (nI (nx L x.1))) = 0 := fun e => e hz1
      have hM3 : lM (uM_at zM1 (nI (nx L x.1))) L := hM1
      have n1 : f_X7_next (uM_at zM1 (nI (nx L x.1))) = some (nI (chL L (nx L x.1)), uM_at zM1 (nI (nx L x.1))) := by
        have := m_next g hM3 hxb rfl
        rw [hxx] at this; exact this
      have e00 : nI (chL L (nx L x.1)) = 0 ↔ chL L (nx L x.1) = 0 := eq_ch g _ (c := 0) (by omega)
      by_cases c0 : chL L (nx L x.1) = 0
      · rw [if_pos c0, if_neg (by omega), if_neg (by omega), f_X7_read_56, if_pos rfl, if_neg hzn, n1, Option.bind_some, if_pos (e00.mpr c0)]
        unfold f_X7_read_159 f_X3_readLine_121
        rw [if_pos (show gM_fault (uM_at zM1 (nI (nx L x.1))) = 0 from hz1)]
        rcases hrel' with ⟨h0, n, K, F, S, r1, r2, r3, r4, r5, r6, r7, r8, r9⟩ | ⟨h1, hfl, G, r1, r2, r3⟩
        · rw [if_pos h0]
          exact ⟨0, _, w1, rfl, Or.inr ⟨rfl, uM_at zM1 (nI (nx L x.1)), n, K, F, rfl, hrd, (show gR_place z = gM_wrongPlace zM1 by rw [hwp]; exact hpl), r1, r2, r3, r4, r5, r8, r9⟩⟩
        · rw [if_neg (show ¬ v0 = 0 by rw [h1]; decide)]
          refine ⟨-4, _, w1, rfl, Or.inl ⟨by decide, uM_at zM1 (nI (nx L x.1)), ?_, hrd, (show gR_place z = gM_wrongPlace zM1 by rw [hwp]; exact hpl)⟩⟩
          have r1' : rRep (uM_at zM1 (nI (nx L x.1))) 8 G := r1
          obtain ⟨r, f1, f2, f3⟩ := mfits_eq (uM_at zM1 (nI (nx L x.1))) 8 (by omega) G r1' (bF_okF r3)
          have f1' : f_X7_fits (uM_at zM1 (nI (nx L x.1))) 8 = some r := f1
          have hr0 : r = 0 := by
            rcases f2 with y | y
            · exact y
            · have := (f3.mp y).1
              have h9 : gM_isFull (uM_at zM1 (nI (nx L x.1))) = 1 := hfl
              rw [h9] at this; exact absurd this (by decide)
          unfold f_X7_finish
          rw [f1', Option.bind_some, if_neg (fun e => e hr0)]
          rfl
      rw [if_neg c0]
      by_cases c1 : chL L (nx L x.1) = 45
      · rw [if_pos c1, if_pos c1]; exact goon 1 (chIn c1 (by omega))
      rw [if_neg c1, if_neg c1]
      by_cases c2 : chL L (nx L x.1) = 43
      · rw [if_pos c2, if_pos c2]; exact goon 0 (chIn c2 (by omega))
      rw [if_neg c2, if_neg c2, f_X7_read_56, if_pos rfl, if_neg hzn, n1, Option.bind_some, if_neg (show ¬ nI (chL L (nx L x.1)) = 0 from fun e => c0 (e00.mp e))]
      unfold f_X7_wrong
      rw [if_neg hzn, Option.bind_some]
      unfold f_X7_read_159
      refine ⟨-2, _, w1, rfl, Or.inl ⟨by decide, uM_wrongPlace (uM_fault (uM_at zM1 (nI (nx L x.1))) (-2)) (nI (nx L x.1)), ?_, hrd, rfl⟩⟩
      exact if_neg (show ¬ (-2 : Int32) = 0 by decide)
end RL
set_option maxHeartbeats 1000000 in
set_option maxRecDepth 100000 in
theorem read_both {zD : DeskS} {zM : MdS} (h : Sim zD zM) (a : Int32) : opR (f_X6_read zD a) (f_X7_read zM a) True False 0 := by
  obtain ⟨r, e1, e2, e3, e4⟩ := isSlot6_eq a
  unfold f_X6_read f_X7_read f_X7_read_13
  rw [e1, e2, refused0, refused1]
  simp only [Option.bind_some]
  rcases e3 with rfl | rfl
  · rw [if_neg (by simp), if_pos rfl]
    exact ⟨1, 0, zD, 0, uM_refusal zM 1, rfl, rfl, h.refusal 1, Or.inr (Or.inl ⟨rfl, rfl, trivial⟩)⟩
  rw [if_pos (show ¬ (1 : Int32) = 0 by decide), if_neg (show ¬ (1 : Int32) = 0 by decide), if_pos trivial]
  obtain ⟨to, hto, rfl⟩ := e4.mp rfl
  obtain ⟨hsl, ⟨n, l1, l2, l3, l4⟩, hot, hpl⟩ := h
  have hcl : ∃ q : Nat → Nat, ∀ i, i < n → gM_line zM i = nI (q i) ∧ 1 ≤ q i ∧ q i < 256 := by
    refine ⟨fun i => if h : i < n then Classical.choose (l4 i h).2 else 0, fun i hi => ?_⟩
    have := Classical.choose_spec (l4 i hi).2
    show gM_line zM i = nI (if h : i < n then Classical.choose (l4 i h).2 else 0) ∧ 1 ≤ (if h : i < n then Classical.choose (l4 i h).2 else 0) ∧ (if h : i < n then Classical.choose (l4 i h).2 else 0) < 256
    rw [dif_pos hi]
    exact ⟨this.2.2, this.1, this.2.1⟩
  obtain ⟨q, hq⟩ := hcl
  obtain ⟨L, hL⟩ : ∃ L : Ln, L = (n, q) := ⟨_, rfl⟩
  have hL1 : L.1 = n := by rw [hL]
  have hL2 : L.2 = q := by rw [hL]
  have g : gdL L := ⟨by omega, fun i hi => by rw [hL2]; exact (hq i (by omega)).2⟩
  have hC : lC (gD_line zD) L := ⟨by rw [hL1]; exact l2, fun i hi => by rw [hL2]; exact ((l4 i (by omega)).1).trans (hq i (by omega)).1⟩
  have hM : lM zM L := ⟨by rw [hL1]; exact l3, fun i hi _ => by rw [hL2]; exact (hq i (by omega)).1⟩
  clear hL hL1 hL2 hq
  obtain ⟨w0, c1, c2, c3⟩ := sRep_clear (gD_work zD) 200
  unfold f_X3_readLine
  rw [c1, Option.bind_some]
  have t1 := c_sign g hC (z := uR_place (uR_fault (uR_at (gD_rd zD) 0) 0) (-1)) (a := 0) (Nat.zero_le _) rfl
  rw [t1, Option.bind_some]
  obtain ⟨z0, k1, k2, k3, k4, k5, -, -⟩ := empty_eq (uM_at (uM_isFull (uM_fault (uM_wrongPlace (uM_refusal zM 0) (-1)) 0) 0) 0) 8 (by omega)
  have k1' : f_X7_empty (uM_at (uM_isFull (uM_fault (uM_wrongPlace (uM_refusal zM 0) (-1)) 0) 0) 0) 8 = some z0 := k1
  rw [k1', Option.bind_some]
  have hM0 : lM z0 L := ⟨k3.2.1.trans hM.1, fun j h1 h2 => by rw [k3.2.2.2.2.2.2.1]; exact hM.2 j h1 h2⟩
  have hz0 : gM_fault z0 = 0 := k3.2.2.2.2.2.1
  have hat0 : gM_at z0 = nI 0 := k3.2.2.2.2.1
  have hwp0 : gM_wrongPlace z0 = -1 := k3.2.2.2.1
  rw [m_sign g hM0 hz0 (Nat.zero_le _) hat0, Option.bind_some]
  have hsg := sgA_le (L := L) (a := 0) (Nat.zero_le _)
  have g1 := g.1
  have hrd0 : mRd (uM_refusal zM 0) z0 := ⟨k3.1, k3.2.1, k3.2.2.2.2.2.2.1, k3.2.2.1, k3.2.2.2.2.2.2.2, k4.low (by omega)⟩
  have hM1 : lM (uM_at z0 (nI (sgA L 0))) L := hM0
  have hrel : rel 0 w0 (uM_at z0 (nI (sgA L 0))) (sgA L 0) := Or.inl ⟨rfl, 0, _, _, [], c2, c3, by omega, supV_0, bF_0, fun k hk => absurd rfl hk, Nat.zero_le _, k2, k5⟩
  obtain ⟨ans, z', w', o1, o2⟩ := read_loop g hC to 100 fuel fuel (sgA L 0) 0 (uR_at (uR_place (uR_fault (uR_at (gD_rd zD) 0) 0) (-1)) (nI (sgA L 0))) w0 (uM_at z0 (nI (sgA L 0))) 0 (if bl L 0 then 1 else 0) (by omega) hsg (by rw [fuel_eq]; omega) (by rw [fuel_eq]; omega) rfl (show (-1 : Int32) = gM_wrongPlace z0 from hwp0.symm) hM1 hz0 rfl (Nat.zero_le _) hrel
  have o1' : f_X3_readLine_33 200 (gD_line zD) fuel (uR_at (uR_place (uR_fault (uR_at (gD_rd zD) 0) 0) (-1)) (nI (sgA L 0))) w0 0 (if bl L 0 then 1 else 0) 0 = some (ans, z', w') := o1
  rw [o1', Option.bind_some]
  have stay : ∀ zM', mRd z0 zM' → gR_place z' = gM_wrongPlace zM' → Sim (uD_work (uD_rd zD z') w') zM' ∧ gM_refusal zM' = 0 := by
    intro zM' hrd hp
    have hr := hrd0.trans hrd
    refine ⟨⟨fun s hs => ?_, ⟨n, l1, l2, hr.2.1.trans l3, fun i hi => ?_⟩, ?_, hp⟩, hr.1⟩
    · obtain ⟨n', K', F', a1, a2, a3⟩ := hsl s hs
      have a2' : rRep (uM_refusal zM 0) s F' := a2
      exact ⟨n', K', F', a1, a2'.low hr.2.2.2.2.2 hs, a3⟩
    · rw [hr.2.2.1]; exact l4 i hi
    · obtain ⟨m, b1, b2, b3, b4⟩ := hot
      exact ⟨m, b1, b2, hr.2.2.2.1.trans b3, fun i hi => by rw [hr.2.2.2.2.1]; exact b4 i hi⟩
  rcases o2 with ⟨y1, zM', y2, y3, y4⟩ | ⟨y1, zM', n', K', F', y2, y3, y4, y5, y6, y7, y8, y9, y10, y11⟩
  · rw [if_pos y1, y2]
    obtain ⟨s1, s2⟩ := stay zM' y3 y4
    exact ⟨0, ans, _, ans, zM', rfl, rfl, s1, Or.inl ⟨rfl, s2, rfl⟩⟩
  · rw [if_neg (fun e => e y1), y2]
    obtain ⟨s1, s2⟩ := stay zM' y3 y4
    obtain ⟨ans2, zD2, zM2, q1, q2, q3, q4, q5⟩ := settle_both (zD := uD_work (uD_rd zD z') w') (zM := zM') (to := to) (F := F') hto s1.1 y5 y7 y6 y10 (bF_okF y9) (fun k hk => (vk_wfk.mp (y8 k hk)).1) ⟨fun _ => y8, fun _ => y11⟩
    rw [q1, q2, Option.bind_some, Option.bind_some]
    exact ⟨0, ans2, zD2, ans2, zM2, rfl, rfl, s1.keep q4 q5 q3, Or.inl ⟨rfl, q5.1.trans s2, rfl⟩⟩
