set_option maxHeartbeats 8000000 in
set_option maxRecDepth 100000 in
theorem whole_start {p : Program} {e : Env} {s : State} {m : MethodId} {below : List Frame} {meth : Method} {c : Code} (l : Launch) (htr : l.stackTraces = false) {b L : Nat} {xs : Nat → Int32} (hL : L ≤ 3072) (C0 : lw_At p s m meth c b L xs) : W p l e room_1 s m #[Value.ref b] below meth c s.heap [] 0 0 (lw_Z below #[Value.ref b] s) (entryFrame m ([Value.ref b] : List Value).toArray 8) := by
  obtain ⟨hx, hb, hr, hml, hown, hts0, hX, hbl, hlocks, hgv⟩ := id C0
  have hts : ∀ w ∈ wd, w.before #[Value.ref b] s = true := fun w h => hts0 w (List.mem_filter.mp h).1
  have hown : s.vm.findClass RL = some m.cls := hown
  have hA : ∀ q : Nat, s.heap.size ≤ q → (fun q : Nat => s.heap.size ≤ q) q := fun _ h => h
  obtain ⟨sa, hxh⟩ := start_xH hts0 hgv
  obtain ⟨G, cA, hK⟩ := start_kOK hts0
  have hAO : va_AO RX4 s := va_AO.of (hts0 (.arrayOver (.object "AntiDesk$Sum")) (by decide +kernel))
  have hN1 : va_Nw (.methodLinkNest RX6 27 yX1_init "AntiDesk") s := va_Nw.of rfl (hts0 _ (by decide +kernel))
  have hN2 : va_Nw (.methodLinkNest RX6 43 yX5_init "AntiDesk") s := va_Nw.of rfl (hts0 _ (by decide +kernel))
  have hS : va_S (fun q : Nat => s.heap.size ≤ q) s.heap s.heap [] := va_S.rf
  have hP : va_P G vwCl [] s.heap := fun k q h => by simp at h
  have hD : va_D (fun q : Nat => s.heap.size ≤ q) [] := ⟨fun i j p q h => by simp at h, fun k q h => by simp at h⟩
  have hl := lv_entry ([.ref b]) (n := 8) (Nat.le_of_ble_eq_true rfl)
  rw [lg_entry_eq]
  generalize (lg_sl ([.ref b]) ++ List.replicate (8 - (lg_sl ([.ref b])).length) Slot.unset).toArray = ls at hl ⊢
  have hl : lv_has ls 8 [(0, .ref b)] := hl
  refine va_new (ci := 4) (fs := [.null, .null, .null, .null, .null, .null]) (C := RX6) (T := TX6) (N := 6) hx hb hts fin_X6 tyX6 tyX6_ok hown (hts _ wi_69) (hts _ wi_70) (hts _ wi_55) hK.1 hP hD hS hA rfl (fun j hj => by match j, hj with | 0, _ => rfl | 1, _ => rfl | 2, _ => rfl | 3, _ => rfl | 4, _ => rfl | 5, _ => rfl | _ + 6, h => exact absurd h (by omega)) (Nat.le_of_ble_eq_true rfl) (Nat.le_of_ble_eq_true rfl) dL_law_0 (fun n0 H hP hD hS => ?_)
  refine W.widen (k := 1) (n := 6) (by omega) (by omega) ?_
  refine lv_dup hx hb dL_law_3 rfl ?_
  refine cCtor (X := []) (w0 := (n0, .inr (4, [.null, .null, .null, .null, .null, .null]))) (b := fun Q : Nat → Nat → Nat => Q 0 0) (wf := fun Q => wDesk cA Q zDesk0) (va_runI (As := []) (rest := [.ref n0]) (g := F0 m 4 ls _) ⟨hx, hb, hml, hown, hts⟩ (m_X6_init l G cA n0 H.size) (cwI9 0 hts wi_73 wi_72 wi_55 wi_71 rfl (by decide +kernel) rfl rfl ⟨Nat.le_of_ble_eq_true rfl, Nat.le_of_ble_eq_true rfl⟩) ⟨cID.blind, fun U hU hW => by obtain ⟨z0, z1, z2, z3, z4⟩ := preI hK hP (av := [.ref n0]) U hU hW; exact ⟨z0, z1, z2, z3, z4, hAO.moved hW.alike, va_Nw.warmM hW hN1, va_Nw.warmM hW hN2⟩⟩ rfl rfl hl.1 rfl (lv_room (Nat.le_of_ble_eq_true rfl)) dL_law_4 ⟨Nat.le_of_ble_eq_true rfl, Nat.le_of_ble_eq_true rfl⟩) hP hD hS hA (fun Q H9 locs9 hw hP9 hD9 hS9 => ?_)
  clear hP hD hS
  have hw : Q 0 0 = n0 := hw
  subst hw
  generalize H9 = H at hP9 hS9 ⊢
  generalize locs9 = locs at hS9 ⊢
  have hS := hS9
  have hP : va_P G vwCl (wDesk cA Q zDesk0) H := hP9
  have hD : va_D (fun q : Nat => s.heap.size ≤ q) (wDesk cA Q zDesk0) := hD9
  clear hP9 hD9 hS9
  refine W.widen (k := 47) (n := 3068) (by omega) (by omega) ?_
  refine lv_astore_n (lv' := [(1, .ref (Q 0 0)), (0, .ref b)]) hx hb dL_law_7 rfl hl (by decide) rfl (fun ls hl => ?_)
  obtain ⟨wD, hwD⟩ : ∃ t : va_W, t = wDesk cA Q zDesk0 := ⟨_, rfl⟩
  rw [← hwD] at hP hD
  refine va_new (ci := 5) (fs := [.int 0, .null, .int 0, .null, .int 0, .int 0, .null, .null, .int 0, .int 0, .int 0, .long 0, .long 0]) (C := RX7) (T := TX7) (N := 13) hx hb hts fin_X7 tyX7 tyX7_ok hown (hts _ wi_665) (hts _ wi_666) (hts _ wi_60) hK.1 hP hD hS hA rfl (fun j hj => by match j, hj with | 0, _ => rfl | 1, _ => rfl | 2, _ => rfl | 3, _ => rfl | 4, _ => rfl | 5, _ => rfl | 6, _ => rfl | 7, _ => rfl | 8, _ => rfl | 9, _ => rfl | 10, _ => rfl | 11, _ => rfl | 12, _ => rfl | _ + 13, h => exact absurd h (by omega)) (Nat.le_of_ble_eq_true rfl) (Nat.le_of_ble_eq_true rfl) dL_law_8 (fun n1 H hP hD hS => ?_)
  refine W.widen (k := 48) (n := 3081) (by omega) (by omega) ?_
  refine lv_dup hx hb dL_law_11 rfl ?_
  refine cCtor (X := wD) (w0 := (n1, .inr (5, [.int 0, .null, .int 0, .null, .int 0, .int 0, .null, .null, .int 0, .int 0, .int 0, .long 0, .long 0]))) (b := fun q : Nat → Nat => q 0) (wf := fun q => wMd cA q (zMd0 11500)) (va_runI (As := []) (rest := [.ref n1]) (g := F0 m 12 ls _) ⟨hx, hb, hml, hown, hts⟩ (m_X7_init l G cA n1 H.size) (cwI9 0 hts wi_669 wi_668 wi_60 wi_667 rfl (by decide +kernel) rfl rfl ⟨Nat.le_of_ble_eq_true rfl, Nat.le_of_ble_eq_true rfl⟩) ⟨cI.blind, preI hK hP⟩ rfl rfl hl.1 rfl (lv_room (Nat.le_of_ble_eq_true rfl)) dL_law_12 ⟨Nat.le_of_ble_eq_true rfl, Nat.le_of_ble_eq_true rfl⟩) hP hD hS hA (fun qM H9 locs9 hw hP9 hD9 hS9 => ?_)
  clear hP hD hS
  have hw : qM 0 = n1 := hw
  subst hw
  generalize H9 = H at hP9 hS9 ⊢
  generalize locs9 = locs at hS9 ⊢
  have hS := hS9
  have hP := hP9
  have hD := hD9
  clear hP9 hD9 hS9
  refine W.widen (k := 52) (n := 27581) (by omega) (by omega) ?_
  refine lv_astore_n (lv' := [(2, .ref (qM 0)), (1, .ref (Q 0 0)), (0, .ref b)]) hx hb dL_law_15 rfl hl (by decide) rfl (fun ls hl => ?_)
  refine lv_iconst (v := nI 1) hx hb dL_law_16 (by decide) ?_
  refine k_newa (ty := .long) (a0 := (1, .inr (.inl (fun _ => 0)))) 1 hx hb hts wi_104 rfl rfl (fun _ h => h) hK.1 hP hD hS hA (fun _ => rfl) (by decide) (by decide) (Nat.le_of_ble_eq_true rfl) (Nat.le_of_ble_eq_true rfl) dL_law_17 (fun qo H hP hD hS => ?_)
  refine W.widen (k := 53) (n := 27582) (by omega) (by omega) ?_
  refine lv_astore_n (lv' := [(3, .ref qo), (2, .ref (qM 0)), (1, .ref (Q 0 0)), (0, .ref b)]) hx hb dL_law_19 rfl hl (by decide) rfl (fun ls hl => ?_)
  refine lv_iconst (v := 0) hx hb dL_law_20 (by decide) ?_
  refine lv_istore (lv' := [(4, .int 0), (3, .ref qo), (2, .ref (qM 0)), (1, .ref (Q 0 0)), (0, .ref b)]) hx hb dL_law_21 hl (by decide) rfl (fun ls hl => ?_)
  rw [List.append_assoc] at hP hD
  rw [hwD] at hP hD
  exact b_L_law_23 Q qM (fun _ => qo) htr C0 hK hxh 600 zDesk0 (zMd0 11500) (fun _ => 0) 0 H locs ls _ _ (by omega) (by omega) hP hD hS (lv_sub hl [4, 3, 2, 1, 0] rfl) (law_true xs L hL _ 600 (by omega))
